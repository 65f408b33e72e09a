/-! loops that count up -/
theorem lup {σ ρ : Type} (L : Nat → σ → Option ρ) (inv : Nat → σ) (E : Nat) (r : ρ) (hs : ∀ n k, k < E → L (n + 1) (inv k) = L n (inv (k + 1))) (hx : ∀ n, L (n + 1) (inv E) = some r) : ∀ (d k n : Nat), E - k = d → k ≤ E → E - k < n → L n (inv k) = some r := by
  intro d
  induction d with
  | zero =>
    intro k n hd hk hn
    have : k = E := by omega
    subst this
    obtain ⟨n', rfl⟩ : ∃ n', n = n' + 1 := ⟨n - 1, by omega⟩
    exact hx n'
  | succ d ih =>
    intro k n hd hk hn
    obtain ⟨n', rfl⟩ : ∃ n', n = n' + 1 := ⟨n - 1, by omega⟩
    rw [hs n' k (by omega)]
    exact ih (k + 1) n' (by omega) (by omega) (by omega)
theorem lup0 {σ ρ : Type} (L : Nat → σ → Option ρ) (inv : Nat → σ) (E N : Nat) (r : ρ) (hN : E < N) (hs : ∀ n k, k < E → L (n + 1) (inv k) = L n (inv (k + 1))) (hx : ∀ n, L (n + 1) (inv E) = some r) : L N (inv 0) = some r :=
  lup L inv E r hs hx E 0 N (Nat.sub_zero E) (Nat.zero_le _) (by omega)
def mixN (k : Nat) (o f : Nat → Int32) : Nat → Int32 := fun j => if j < k then o j else f j
theorem mixN_0 (o f : Nat → Int32) : mixN 0 o f = f := by funext j; simp [mixN]
theorem mixN_in {k j : Nat} {o f : Nat → Int32} (h : j < k) : mixN k o f j = o j := if_pos h
theorem mixN_s (k : Nat) (o f : Nat → Int32) : upd (mixN k o f) k (o k) = mixN (k + 1) o f := by
  funext j
  by_cases hj : j = k
  · subst hj; rw [pk_us, mixN_in (Nat.lt_succ_self _)]
  · rw [pk_un hj]
    by_cases h2 : j < k
    · rw [mixN_in h2, mixN_in (by omega)]
    · rw [mixN, mixN, if_neg h2, if_neg (by omega)]
theorem lit_nI (n : Nat) : (OfNat.ofNat n : Int32) = nI n := rfl
theorem nI_geO {a b : Nat} (h : a < b) (hb : b < 2 ^ 31) : ¬ Int32.ofNat b ≤ nI a := nI_ge h hb
theorem ix16 (m k : Nat) : nI m * 16 + nI k = nI (m * 16 + k) := by
  rw [show (16 : Int32) = nI 16 from rfl, pk_mul, nI_add]
theorem at8 {ln k : Nat} {rf : Nat → Int32} (hk : k < ln) (hl : ln < 2147483648) : fX8_at ln rf (nI k) = some (rf k) := by
  unfold fX8_at
  rw [if_neg (nI_pos (by omega)), if_neg (nI_geO hk hl), nI_clamp (by omega)]
theorem put8 {ln k : Nat} {rf : Nat → Int32} {x : Int32} (hk : k < ln) (hl : ln < 2147483648) : fX8_put ln rf (nI k) x = some (upd rf k x) := by
  unfold fX8_put
  rw [if_neg (nI_pos (by omega)), if_neg (nI_geO hk hl), nI_clamp (by omega)]
theorem at6 {md : Nat → Int32} {m k : Nat} (hm : m < 3) (hk : k < 16) : fX6_at md (nI m) (nI k) = some (md (m * 16 + k)) := by
  unfold fX6_at
  rw [ix16, if_neg (nI_pos (by omega)), if_neg (show ¬ (48 : Int32) ≤ _ from nI_ge (b := 48) (by omega) (by decide)), nI_clamp (by omega)]
theorem put6 {md : Nat → Int32} {m k : Nat} {x : Int32} (hm : m < 3) (hk : k < 16) : fX6_put md (nI m) (nI k) x = some (upd md (m * 16 + k) x) := by
  unfold fX6_put
  rw [ix16, if_neg (nI_pos (by omega)), if_neg (show ¬ (48 : Int32) ≤ _ from nI_ge (b := 48) (by omega) (by decide)), nI_clamp (by omega)]
theorem to8 {ln : Nat} (rf o : Nat → Int32) (hl : ln < 1000) : fX8_takeOver ln rf ln o = some (mixN ln o rf) := by
  unfold fX8_takeOver
  have h := lup0 (fun n (s : Int32 × (Nat → Int32)) => fX8_takeOver_L2 ln ln o n s.1 s.2) (fun k => (nI k, mixN k o rf)) ln 2000 (mixN ln o rf) (by omega)
    (fun n k hk => by
      show fX8_takeOver_L2 ln ln o (n + 1) (nI k) (mixN k o rf) = fX8_takeOver_L2 ln ln o n (nI (k + 1)) (mixN (k + 1) o rf)
      rw [fX8_takeOver_L2, if_neg (nI_geO hk (by omega)), at8 hk (by omega), Option.bind_some, if_pos (nI_in hk (by omega)), nI_1, nI_clamp (by omega), mixN_s])
    (fun n => by
      show fX8_takeOver_L2 ln ln o (n + 1) (nI ln) (mixN ln o rf) = _
      rw [fX8_takeOver_L2, if_pos (show Int32.ofNat ln ≤ nI ln from Int32.le_refl _)])
  simp only [mixN_0] at h
  rw [show (0 : Int32) = nI 0 from rfl, h]
  rfl
theorem to6i (md o : Nat → Int32) {m : Nat} (hm : m < 3) : fX6_takeOver_L9 o (nI m) 2000 0 (mixN (m * 16) o md) = some (mixN ((m + 1) * 16) o md) := by
  have h := lup0 (fun n (s : Int32 × (Nat → Int32)) => fX6_takeOver_L9 o (nI m) n s.1 s.2) (fun k => (nI k, mixN (m * 16 + k) o md)) 16 2000 (mixN (m * 16 + 16) o md) (by omega)
    (fun n k hk => by
      show fX6_takeOver_L9 o (nI m) (n + 1) (nI k) (mixN (m * 16 + k) o md) = fX6_takeOver_L9 o (nI m) n (nI (k + 1)) (mixN (m * 16 + (k + 1)) o md)
      rw [fX6_takeOver_L9, if_neg (show ¬ (16 : Int32) ≤ _ from nI_ge (b := 16) hk (by decide)), at6 hm hk, Option.bind_some, put6 hm hk, Option.bind_some, nI_1, mixN_s, Nat.add_assoc])
    (fun n => by
      show fX6_takeOver_L9 o (nI m) (n + 1) (nI 16) (mixN (m * 16 + 16) o md) = _
      rw [fX6_takeOver_L9, if_pos (show (16 : Int32) ≤ nI 16 by decide)])
  have e : (m + 1) * 16 = m * 16 + 16 := by omega
  rw [e]
  exact h
theorem to6 (md o : Nat → Int32) (c : Int32) : fX6_takeOver md o c = some (mixN 48 o md, c) := by
  unfold fX6_takeOver
  have h := lup0 (fun n (s : Int32 × (Nat → Int32)) => fX6_takeOver_L2 o n s.1 s.2) (fun m => (nI m, mixN (m * 16) o md)) 3 2000 (mixN 48 o md) (by omega)
    (fun n m hm => by
      show fX6_takeOver_L2 o (n + 1) (nI m) (mixN (m * 16) o md) = fX6_takeOver_L2 o n (nI (m + 1)) (mixN ((m + 1) * 16) o md)
      rw [fX6_takeOver_L2, if_neg (show ¬ (3 : Int32) ≤ _ from nI_ge (b := 3) hm (by decide)), to6i md o hm, Option.bind_some, nI_1])
    (fun n => by
      show fX6_takeOver_L2 o (n + 1) (nI 3) (mixN 48 o md) = _
      rw [fX6_takeOver_L2, if_pos (show (3 : Int32) ≤ nI 3 by decide)])
  simp only [Nat.zero_mul, mixN_0] at h
  rw [show (0 : Int32) = nI 0 from rfl, h]
  rfl
theorem to7 (rd rw rp o_rd o_rw o_rp : Nat → Int32) (a b : Int32) : fX7_takeOver rd rw rp o_rd o_rw o_rp a b = some (mixN 80 o_rd rd, mixN 5 o_rw rw, mixN 5 o_rp rp, a, b) := by
  unfold fX7_takeOver
  rw [to8 rd o_rd (by omega), Option.bind_some, to8 rw o_rw (by omega), Option.bind_some, to8 rp o_rp (by omega), Option.bind_some]
theorem to4 (md rd rw rp o_md : Nat → Int32) (o_mch o_fra o_fwe o_fof o_fsi o_csh o_cde o_csp : Int32) (o_rd o_rw o_rp : Nat → Int32) (o_rco o_rmo o_apa o_awo o_ash o_aja o_abu o_ltol o_lchi o_ljam : Int32) (hj : o_ljam = 0 ∨ o_ljam = 1) :
    fX4_takeOver md rd rw rp o_md o_mch o_fra o_fwe o_fof o_fsi o_csh o_cde o_csp o_rd o_rw o_rp o_rco o_rmo o_apa o_awo o_ash o_aja o_abu o_ltol o_lchi o_ljam = some (mixN 48 o_md md, o_mch, o_fra, o_fwe, o_fof, o_fsi, o_csh, o_cde, o_csp, mixN 80 o_rd rd, mixN 5 o_rw rw, mixN 5 o_rp rp, o_rco, o_rmo, o_apa, o_awo, o_ash, o_aja, o_abu, o_ltol, o_lchi, o_ljam) := by
  unfold fX4_takeOver
  rw [to6, Option.bind_some]
  simp only [fX2_takeOver, fX1_takeOver, fX0_takeOver, Option.bind_some, to7, if_pos hj]
