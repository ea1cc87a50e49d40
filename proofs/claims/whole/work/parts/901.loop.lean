/-! the law's loop and start, over the pure statement -/
theorem nI_sub6 {L : Nat} (h6 : 6 ≤ L) (hL : L ≤ 3072) : nI L - 6 = nI (L - 6) := pk_sub (a := L) (b := 6) h6
set_option maxHeartbeats 4000000 in
set_option maxRecDepth 100000 in
theorem law_loop {p : Program} {l : Launch} {e : Env} {s : State} {m : MethodId} {below : List Frame} {meth : Method} {c : Code} {b : Nat} {D : va_G} {cy : Nat → ClassId} {sb L x mm : Nat} {xs : Nat → Int32} (C : CX p s m #[.ref sb] meth c b D cy cL_law RL 4 ret) (hX : va_X sb L xs s s.heap) (hsb : sb < s.heap.size) (hbb : b = s.heap.size) (hL : L ≤ 3072) (hfb : ∀ locs : List Loc, (∀ q ∈ locs, b ≤ q.base) → ∀ q ∈ locs, s.heap.size ≤ q.base) :
    ∀ (n it : Nat) (x3 : Int32) (cells slots : Nat) (G : Gm) (S : St), x3 = nI (6 * it) → 6 * (it + n) ≤ L → L < 6 * (it + n) + 6 → cells + 8 * n ≤ 600000 → slots + 1000 * n ≤ 7302250 → ok G 9 x → ok G 10 mm → lawRun xs x mm n it G S → J p l e room_1 s m #[.ref sb] below meth c b D cy 4 (lw_Z below #[.ref sb] s) cells slots G S 18 [(3, .int x3), (2, .ref (b + mm)), (1, .ref (b + x)), (0, .ref sb)] [] := by
  have hlen : ∀ {x3 : Int32} {cells slots : Nat} {G : Gm} {S : St}, J p l e room_1 s m #[.ref sb] below meth c b D cy 4 (lw_Z below #[.ref sb] s) cells slots G S 21 [(3, .int x3), (2, .ref (b + mm)), (1, .ref (b + x)), (0, .ref sb)] [.int (nI L), .int x3] → J p l e room_1 s m #[.ref sb] below meth c b D cy 4 (lw_Z below #[.ref sb] s) cells slots G S 18 [(3, .int x3), (2, .ref (b + mm)), (1, .ref (b + x)), (0, .ref sb)] [] := by
    intro x3 cells slots G S K
    refine jB C [(.iload_n 3, 1, 0), (.aload_n 0, 1, 0)] 20 [(3, .int x3), (2, .ref (b + mm)), (1, .ref (b + x)), (0, .ref sb)] [.ref sb, .int x3] (by decide +kernel) rfl rfl ?_
    obtain ⟨hx, hb, hown, hts, hml, hr, hlk, sk, hbs⟩ := C
    intro H locs ls w v h
    exact va_slen hx hb hX hsb (by show ¬ b ≤ sb; omega) v (by decide +kernel : decode cL_law 20 = .ok (.arraylength, 1)) (K H locs ls w v h)
  intro n
  induction n with
  | zero =>
    intro it x3 cells slots G S hi h1 h2 hc hs tx tm h
    refine hlen ?_
    refine jB C [(.bipush 6, 2, 6), (.isub, 1, 0)] 24 [(3, .int x3), (2, .ref (b + mm)), (1, .ref (b + x)), (0, .ref sb)] [.int (nI L - 6), .int x3] (by decide +kernel) rfl rfl ?_
    refine jIcmp_gt C 27 1282 (by decide +kernel : decode cL_law 24 = .ok (.if_icmp .gt 1258, 3)) rfl rfl (fun c1 => ?_) (fun c1 => ?_)
    · refine jB C [(.iconst 1, 1, 1)] 1283 [(3, .int x3), (2, .ref (b + mm)), (1, .ref (b + x)), (0, .ref sb)] [.int 1] (by decide +kernel) rfl rfl ?_
      obtain ⟨hx, hb, hown, hts, hml, hr, hlk, sk, hbs⟩ := C
      intro H locs ls w v h
      refine va_forget (fun q hq => by have := v.2.2 q hq; omega) ?_
      refine W.widen (k := 600000) (n := 7302250) (by omega) (by omega) ?_
      exact lw_ret hx hb hr hlk (by decide +kernel)
    · refine absurd ?_ c1
      rw [hi]
      rcases Nat.lt_or_ge L 6 with h6 | h6
      · exact Int32.lt_of_lt_of_le (pk_sneg (a := L) (b := 6) (by decide) h6) (nI_pos' (by omega))
      · rw [nI_sub6 h6 hL]
        exact nI_lt (by omega) (by omega)
  | succ n ih =>
    intro it x3 cells slots G S hi h1 h2 hc hs tx tm h
    refine hlen ?_
    refine jB C [(.bipush 6, 2, 6), (.isub, 1, 0)] 24 [(3, .int x3), (2, .ref (b + mm)), (1, .ref (b + x)), (0, .ref sb)] [.int (nI L - 6), .int x3] (by decide +kernel) rfl rfl ?_
    refine jIcmp_gt C 27 1282 (by decide +kernel : decode cL_law 24 = .ok (.if_icmp .gt 1258, 3)) rfl rfl (fun c1 => ?_) (fun c1 => ?_)
    · refine absurd c1 ?_
      rw [hi, nI_sub6 (by omega) hL]
      exact nI_nlt (by omega) (by omega)
    · refine jB C [(.aload_n 0, 1, 0), (.iload_n 3, 1, 0)] 29 [(3, .int x3), (2, .ref (b + mm)), (1, .ref (b + x)), (0, .ref sb)] [.int x3, .ref sb] (by decide +kernel) rfl rfl ?_
      have hg : J p l e room_1 s m #[.ref sb] below meth c b D cy 4 (lw_Z below #[.ref sb] s) cells slots G S 30 [(3, .int x3), (2, .ref (b + mm)), (1, .ref (b + x)), (0, .ref sb)] [.int (xs (6 * it))] := by
        refine jB C [(.bipush 63, 2, 63), (.iand, 1, 0)] 33 [(3, .int x3), (2, .ref (b + mm)), (1, .ref (b + x)), (0, .ref sb)] [.int (xs (6 * it) &&& 63)] (by decide +kernel) rfl rfl ?_
        refine jl_step (K := fun G1 S1 => lawRun xs x mm n (it + 1) G1 S1) C hX hsb hbb hi (by omega) hL (by omega) (by omega) tx tm h (fun G1 S1 hx1 h => ?_)
        refine jB C [(.iinc 3 6, 3, 6)] 1279 [(3, .int (x3 + 6)), (2, .ref (b + mm)), (1, .ref (b + x)), (0, .ref sb)] [] (by decide +kernel) rfl rfl ?_
        refine jGoto C 18 (by decide +kernel : decode cL_law 1279 = .ok (.goto (-1261), 3)) rfl ?_
        exact ih (it + 1) (x3 + 6) (cells + 8) (slots + 1000) G1 S1 (by rw [hi]; exact nI_add (6 * it) 6) (by omega) (by omega) (by omega) (by omega) (hx1.ok tx) (hx1.ok tm) h
      obtain ⟨hx, hb, hown, hts, hml, hr, hlk, sk, hbs⟩ := C
      intro H locs ls w v h
      have hin : vp_in x3 L := by rw [hi]; exact vp_in_nI (by omega) (by omega)
      have e2 : x3.toNatClampNeg = 6 * it := by rw [hi]; exact nI_clamp (by omega)
      have K := hg H locs ls w v h
      rw [← e2] at K
      exact va_sld hx hb hX hsb (by show ¬ b ≤ sb; omega) v hin (by decide +kernel : decode cL_law 29 = .ok (.iaload, 1)) K
def G00 : Gm := (fun _ => 0, fun _ => 0, 0)
def S00 : St := (fun _ _ => 0, fun _ _ => 0, fun _ _ => none)
/-- the pure statement: both objects made, every call of the script answers alike -/
def lawStart (xs : Nat → Int32) (n : Nat) : Prop := f_X10_init (gN G00 9 0) 0 (fun G1 S1 => f_X11_init (gN G1 10 0) G1.2.2 (fun G2 S2 => lawRun xs 0 G1.2.2 n 0 G2 S2) (sN S1 G1.2.2)) (sN S00 0)
