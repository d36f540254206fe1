/-! all chunks -/
theorem lq_full : ∀ q, 0 ≤ q → q < 512 → lq_zP q := (lq_z2 (lq_z2 (lq_z2 (lq_z2 lq_zk0 lq_zk1) (lq_z2 lq_zk2 lq_zk3)) (lq_z2 (lq_z2 lq_zk4 lq_zk5) (lq_z2 lq_zk6 lq_zk7))) (lq_z2 (lq_z2 (lq_z2 lq_zk8 lq_zk9) (lq_z2 lq_zk10 lq_zk11)) (lq_z2 (lq_z2 lq_zk12 lq_zk13) (lq_z2 lq_zk14 lq_zk15))))
theorem lq_all_t : lq_all := fun q h => lq_full q (Nat.zero_le _) h
