section SIM
variable {k : Nat} {I J : gI} {P : gP} {LG : Option Nat} {LP : Option (Nat × Nat)}
theorem sim_init : gR 0 (fun _ _ => 0) mJ0 (fun _ _ => none) none none := sorry
theorem sim_read (h : gR k I J P LG LP) (x y : Int32) : (cRead I x y).1 = (mRead J x y).1 ∧ gR k (cRead I x y).2 (mRead J x y).2 P LG LP := sorry
theorem sim_write (h : gR k I J P LG LP) (x y z : Int32) : (cWrite I x y z).1 = (mWrite J x y z).1 ∧ gR k (cWrite I x y z).2 (mWrite J x y z).2 P LG LP := sorry
theorem sim_create (h : gR k I J P LG LP) (x : Int32) {ad : gN → Nat} {r : Int32} {u : gT} (hc : cCre ad k I J P LG LP x r u) : ∃ ad2 k2 I2 P2, u = (ad2, k2, I2, J, P2, LG, LP) ∧ (∀ n, gD k n → ad2 n = ad n) ∧ r = (mCreate J x).1 ∧ gR k2 I2 (mCreate J x).2 P2 LG LP ∧ k ≤ 6 ∧ J mo 7 = nI k := sorry
theorem sim_feed (h : gR k I J P LG LP) (a x : Int32) : (cFeed I k P a x).1 = (mFeed J a x).1 ∧ gR k (cFeed I k P a x).2 (mFeed J a x).2 P LG LP := sorry
theorem sim_donate (h : gR k I J P LG LP) (a x y : Int32) : (cDonate I k P a x y).1 = (mDonate J a x y).1 ∧ gR k (cDonate I k P a x y).2.1 (mDonate J a x y).2 (cDonate I k P a x y).2.2 LG LP := sorry
theorem sim_lend (h : gR k I J P LG LP) (a x y : Int32) : (cLend I k P a x y).1 = (mLend J a x y).1 ∧ gR k (cLend I k P a x y).2.1 (mLend J a x y).2 (cLend I k P a x y).2.2 LG LP := sorry
theorem sim_take (h : gR k I J P LG LP) (x : Int32) : (cTake I k P x).1 = (mTake J x).1 ∧ gR k (cTake I k P x).2.1 (mTake J x).2 (cTake I k P x).2.2 LG LP := sorry
theorem sim_destroy (h : gR k I J P LG LP) (a : Int32) : (cDestroy I k LG a).1 = (mDestroy J a).1 ∧ gR k (cDestroy I k LG a).2 (mDestroy J a).2 P LG LP := sorry
theorem sim_reclaim (h : gR k I J P LG LP) (x : Int32) : (cReclaim I x).1 = (mReclaim J x).1 ∧ gR k (cReclaim I x).2 (mReclaim J x).2 P LG LP := sorry
theorem sim_load (h : gR k I J P LG LP) (a v : Int32) : (cLoad I k LG LP a v).1 = (mLoad J a v).1 ∧ gR k (cLoad I k LG LP a v).2.1 (mLoad J a v).2 P (cLoad I k LG LP a v).2.2.1 (cLoad I k LG LP a v).2.2.2 := sorry
theorem sim_put (h : gR k I J P LG LP) : bz (¬ LP = none) = (mPut J).1 ∧ gR k I (mPut J).2 P (if LP = none then LG else none) none := sorry
theorem sim_run (h : gR k I J P LG LP) (n x : Int32) : (cRun I P LP n x).1 = (mRun J n x).1 ∧ gR k (cRun I P LP n x).2 (mRun J n x).2 P LG LP := sorry
theorem sim_set (h : gR k I J P LG LP) (x y : Int32) : (cSet I LP x y).1 = (mSet J x y).1 ∧ gR k (cSet I LP x y).2 (mSet J x y).2 P LG LP := sorry
theorem sim_reg (h : gR k I J P LG LP) (x : Int32) : cReg I LP x = mReg J x := sorry
theorem sim_owner (h : gR k I J P LG LP) (x : Int32) : cOwner I x = mOwner J x := sorry
theorem sim_state (h : gR k I J P LG LP) (x : Int32) : cState I x = mState J x := sorry
theorem sim_pool (h : gR k I J P LG LP) (a : Int32) : cPool I k P a = mPool J a := sorry
theorem sim_tab (h : gR k I J P LG LP) (a : Int32) : cTab I k P a = mTab J a := sorry
end SIM
