/-! Every call of every script answers alike. -/
set_option maxHeartbeats 4000000 in
theorem run_all (xs : Nat → Int32) : ∀ (n it : Nat) (G : Gm) (S : St), Inv G S → lawRun xs 0 87 n it G S := by
  intro n
  induction n with
  | zero => intro it G S _; trivial
  | succ n ih =>
    intro it G S h
    rw [lawRun]
    generalize hK : (fun G1 S1 => lawRun xs 0 87 n (it + 1) G1 S1) = K
    have ih : ∀ G' S', Inv G' S' → K G' S' := fun G' S' h' => by rw [← hK]; exact ih (it + 1) G' S' h'
    unfold lawStep
    refine ite_c (fun _ => R_0 (K := K) h (fun S' h' => ih G S' h')) (fun _ => ?_)
    refine ite_c (fun _ => R_1 (K := K) h (fun S' h' => ih G S' h')) (fun _ => ?_)
    refine ite_c (fun _ => R_2 (K := K) h (fun S' h' => ih G S' h')) (fun _ => ?_)
    refine ite_c (fun _ => R_3 (K := K) h (fun S' h' => ih G S' h')) (fun _ => ?_)
    refine ite_c (fun _ => R_4 (K := K) h (fun S' h' => ih G S' h')) (fun _ => ?_)
    refine ite_c (fun _ => R_5 (K := K) h (fun S' h' => ih G S' h')) (fun _ => ?_)
    refine ite_c (fun _ => R_6 (K := K) h (fun S' h' => ih G S' h')) (fun _ => ?_)
    refine ite_c (fun _ => R_7 (K := K) h (fun S' h' => ih G S' h')) (fun _ => ?_)
    refine ite_c (fun _ => R_8 (K := K) h (fun S' h' => ih G S' h')) (fun _ => ?_)
    refine ite_c (fun _ => R_9 (K := K) h (fun S' h' => ih G S' h')) (fun _ => ?_)
    refine ite_c (fun _ => R_10 (K := K) h (fun S' h' => ih G S' h')) (fun _ => ?_)
    refine ite_c (fun _ => R_11 h ih) (fun _ => ?_)
    refine ite_c (fun _ => R_12 (K := K) h (fun S' h' => ih G S' h')) (fun _ => ?_)
    refine ite_c (fun _ => R_13 (K := K) h (fun S' h' => ih G S' h')) (fun _ => ?_)
    refine ite_c (fun _ => R_14 (K := K) h (fun S' h' => ih G S' h')) (fun _ => ?_)
    refine ite_c (fun _ => R_15 (K := K) h (fun S' h' => ih G S' h')) (fun _ => ?_)
    refine ite_c (fun _ => R_16 (K := K) h (fun S' h' => ih G S' h')) (fun _ => ?_)
    refine ite_c (fun _ => R_17 (K := K) h (fun S' h' => ih G S' h')) (fun _ => ?_)
    refine ite_c (fun _ => R_18 (K := K) h (fun S' h' => ih G S' h')) (fun _ => ?_)
    refine ite_c (fun _ => R_19 (K := K) h (fun S' h' => ih G S' h')) (fun _ => ?_)
    refine ite_c (fun _ => R_20 (K := K) h (fun S' h' => ih G S' h')) (fun _ => ?_)
    refine ite_c (fun _ => R_21 (K := K) h (fun S' h' => ih G S' h')) (fun _ => ?_)
    refine ite_c (fun _ => R_22 (K := K) h (fun S' h' => ih G S' h')) (fun _ => ?_)
    refine ite_c (fun _ => R_23 (K := K) h (fun S' h' => ih G S' h')) (fun _ => ?_)
    refine ite_c (fun _ => R_24 (K := K) h (fun S' h' => ih G S' h')) (fun _ => ?_)
    refine ite_c (fun _ => R_25 (K := K) h (fun S' h' => ih G S' h')) (fun _ => ?_)
    refine ite_c (fun _ => R_26 (K := K) h (fun S' h' => ih G S' h')) (fun _ => ?_)
    refine ite_c (fun _ => R_27 (K := K) h (fun S' h' => ih G S' h')) (fun _ => ?_)
    refine ite_c (fun _ => R_28 (K := K) h (fun S' h' => ih G S' h')) (fun _ => ?_)
    refine ite_c (fun _ => R_29 (K := K) h (fun S' h' => ih G S' h')) (fun _ => ?_)
    refine ite_c (fun _ => R_30 (K := K) h (fun S' h' => ih G S' h')) (fun _ => ?_)
    refine ite_c (fun _ => R_31 (K := K) h (fun S' h' => ih G S' h')) (fun _ => ?_)
    refine ite_c (fun _ => R_32 (K := K) h (fun S' h' => ih G S' h')) (fun _ => ?_)
    refine ite_c (fun _ => R_33 (K := K) h (fun S' h' => ih G S' h')) (fun _ => ?_)
    refine ite_c (fun _ => R_34 (K := K) h (fun S' h' => ih G S' h')) (fun _ => ?_)
    refine ite_c (fun _ => R_35 (K := K) h (fun S' h' => ih G S' h')) (fun _ => ?_)
    refine ite_c (fun _ => R_36 (K := K) h (fun S' h' => ih G S' h')) (fun _ => ?_)
    refine ite_c (fun _ => R_37 h ih) (fun _ => ?_)
    refine ite_c (fun _ => R_38 (K := K) h (fun S' h' => ih G S' h')) (fun _ => ?_)
    refine ite_c (fun _ => R_39 (K := K) h (fun S' h' => ih G S' h')) (fun _ => ?_)
    refine ite_c (fun _ => R_40 (K := K) h (fun S' h' => ih G S' h')) (fun _ => ?_)
    exact ih G S h
theorem pure_all (xs : Nat → Int32) (n : Nat) (h : n ≤ 512) : lawStart xs n := ini_all (Q := fun mm G2 S2 => lawRun xs 0 mm n 0 G2 S2) (fun G S hi => run_all xs n 0 G S hi)
