/-! THE CLAIM OUT OF ONE WALK OF THE LAW'S BODY. Your part is whole_start (and what it stands on); all else here is the same for every law, but numbers. -/
def R_law : String := "FinedAlikeLaw"
def lw_P (b : Addr) (xs : List Int32) (args : Array Value) (s : State) : Prop := args = #[.ref b] ∧ s.IntsAt b xs ∧ xs.length ≤ 2048 ∧ (Jvm.Cond.and given_1 narrow_1).before args s = true
def lw_Q (_ : Array Value) (s : State) (o : Outcome) (t : State) : Prop := o = .returned (some (.int 1)) ∧ Framed s o t [] 600000 7302249
def lw_Z (below : List Frame) (a : Array Value) (s : State) : State → Prop := fun t => ∃ o, t.status = .running ∧ Ended t below o ∧ lw_Q a s o t
/-- the law's own end, with 1 on the stack, nothing written that was there before, its room as the claim has it -/
theorem lw_ret {p : Program} {l : Launch} {e : Env} {s : State} {m : MethodId} {below : List Frame} {meth : Method} {c : Code} {b : Nat} (hx : p.tables.exec = Jvm.exec) (hb : c.code = code) (hr : meth.sig.returnType = ret) (hlocks : meth.locks = false) {pc : Nat} {H : Heap} {ls : Array Slot} (hdg : decode code pc = .ok (.ireturn, 1)) : W p l e room_1 s m #[Value.ref b] below meth c H [] 600000 7302249 (lw_Z below #[Value.ref b] s) (F0 m pc ls [.int 1]) := by
  intro T hT X
  obtain ⟨fs, hret, hrun, hended, hW, hframe⟩ := X.leave (v := some (.int 1)) (hlocks := hlocks) (fun h => by rw [hr] at h; cases h)
  have hmeth' : T.vm.method? m = some meth := X.method'
  refine ⟨T.setFrames fs, ?_, .returned (some (.int 1)), hrun, hended, rfl, ⟨_, rfl⟩, hW, hframe⟩
  jvm_step X.here [X.here.top, hx, hb, hdg, hmeth', hr, ret, narrow_b1]
  (try refine ⟨rfl, ?_⟩); (try refine ⟨rfl, ?_⟩)
  first | (intro acts; rw [hret _ acts rfl rfl rfl]) | rw [hret _ _ rfl rfl rfl]
  exact Steps.refl _
/-- what holds at the law's entry: the machine, the code, the tables' words (any of lw_tbl by 'hts w (by decide +kernel)'), the script of L ints xs at the cell b, what the Statement gives of the start (any of its parts by flat_of_before) -/
def lw_At (p : Program) (s : State) (m : MethodId) (meth : Method) (c : Code) (b L : Nat) (xs : Nat → Int32) : Prop :=
  p.tables.exec = Jvm.exec ∧ c.code = code ∧ meth.sig.returnType = ret ∧ c.maxLocals = 4 ∧ s.vm.findClass R_law = some m.cls ∧ (∀ w ∈ lw_tbl, w.before #[Value.ref b] s = true) ∧ va_X b L xs s s.heap ∧ b < s.heap.size ∧ meth.locks = false ∧ (Jvm.Cond.and given_1 narrow_1).before #[Value.ref b] s = true
/-! ===== the law: its script, its end ===== -/
def fx_rs (L : Int) (xs : Int → Int) (i : Int) : Option Int := if 0 ≤ i ∧ i < L then some (xs i) else none
/-- the script: (62, 2), of L ints -/
def fx_Sc (M : fx_M) (G : fx_G) (L : Int) (xs : Int → Int) : Prop := match M, G with
  | (p, l, e, R, s, m, args, below, meth, c, cells, slots, Q), (D, cy, ad, ex, A) => ∃ (n : Nat) (ys : Nat → Int32), va_X (ex 2) n ys s s.heap ∧ ex 2 < s.heap.size ∧ ¬ A (ex 2) ∧ L = n ∧ n ≤ 2048 ∧ ∀ j : Nat, j < n → xs j = (ys j).toInt
/-- the law's end -/
def fx_FrL (M : fx_M) (G : fx_G) : Prop := match M, G with
  | (p, l, e, R, s, m, args, below, meth, c, cells, slots, Q), (D, cy, ad, ex, A) => meth.sig.returnType = ret ∧ R = room_1 ∧ (∃ b : Nat, args = #[Value.ref b]) ∧ Q = lw_Z below args s ∧ cells ≤ 600000 ∧ slots ≤ 7302249 ∧ (∀ q, A q → s.heap.size ≤ q)
section FXLaw
variable {M : fx_M} {G : fx_G} {Λ : fx_L} {own : String} {nL pc : Nat} {rm : Room} {ls : List (Option fx_V)} {st : List fx_V} {h : fx_H} {L : Int} {xs : Int → Int}
theorem fx_lawret (F : fx_F fx_X M G Λ code own nL rm) (K : fx_FrL M G) (d : decode code pc = .ok (.ireturn, 1)) : fx_J M G Λ nL pc ls [(0, 1)] h := by
  obtain ⟨p, l, e, R, s, m, args, below, meth, c, cells, slots, Q⟩ := M
  obtain ⟨D, cy, ad, ex, A⟩ := G
  obtain ⟨hx, hb, hml, hown, hts, hK, hwf, hA, hRm, hlocks, hcr, hX⟩ := F
  obtain ⟨hrt, hR1, ⟨b, hargs⟩, hQ, hc, hs, hAq⟩ := K
  subst hR1
  subst hargs
  subst hQ
  intro hls hst hR H locs la hP hD hS hl
  refine va_forget (fun q hq => hAq _ (hS.2.2 q hq)) ?_
  refine W.widen hc hs ?_
  exact lw_ret hx hb hrt hlocks d
theorem fx_rsld {cc : ByteArray} (F : fx_F fx_X M G Λ cc own nL rm) (S : fx_Sc M G L xs) {i v : Int} (hv : fx_rs L xs i = some v) (d : decode cc pc = .ok (.iaload, 1)) (g : fx_J M G Λ nL (pc + 1) ls ((0, v) :: st) h) : fx_J M G Λ nL pc ls ((0, i) :: (62, 2) :: st) h := by
  unfold fx_rs at hv
  split at hv
  case isFalse => cases hv
  case isTrue hq =>
  cases hv
  obtain ⟨p, l, e, R, s, m, args, below, meth, c, cells, slots, Q⟩ := M
  obtain ⟨D, cy, ad, ex, A⟩ := G
  obtain ⟨hx, hb, hml, hown, hts, hK, hwf, hA, hRm, hlocks, hcr, hX⟩ := F
  obtain ⟨n, ys, hXs, hbl, hbA, rfl, hn, hys⟩ := S
  intro hls hst hR H locs la hP hD hS hl
  have hy' := hst _ List.mem_cons_self
  have hr' : ∀ v ∈ st, fx_ok Λ v := fun v hv => hst v (List.mem_cons_of_mem _ (List.mem_cons_of_mem _ hv))
  have hir := fx_ok_i hy'
  have ev : xs i = (ys i.toNat).toInt := by
    have := hys i.toNat (by omega)
    rw [Int.toNat_of_nonneg hq.1] at this
    exact this
  have h9 := g hls (fx_okc (show fx_R (xs i) by rw [ev]; exact fx_toInt_R _) hr') hR H locs la hP hD hS hl
  refine va_sld hx hb hXs hbl hbA hS (fx_in hir hq.1 hq.2) d ?_
  rw [fx_cl hir]
  have e9 : fx_v ad ex (0, xs i) = .int (ys i.toNat) := by
    show Value.int (Int32.ofInt (xs i)) = _
    rw [ev, fx_of_toInt]
  rw [List.map_cons, e9] at h9
  exact h9
theorem fx_slL {cc : ByteArray} (F : fx_F fx_X M G Λ cc own nL rm) (S : fx_Sc M G L xs) (d : decode cc pc = .ok (.arraylength, 1)) (g : fx_J M G Λ nL (pc + 1) ls ((0, L) :: st) h) : fx_J M G Λ nL pc ls ((62, 2) :: st) h := by
  obtain ⟨p, l, e, R, s, m, args, below, meth, c, cells, slots, Q⟩ := M
  obtain ⟨D, cy, ad, ex, A⟩ := G
  obtain ⟨hx, hb, hml, hown, hts, hK, hwf, hA, hRm, hlocks, hcr, hX⟩ := F
  obtain ⟨n, ys, hXs, hbl, hbA, rfl, hn, hys⟩ := S
  intro hls hst hR H locs la hP hD hS hl
  have hr' : ∀ v ∈ st, fx_ok Λ v := fun v hv => hst v (List.mem_cons_of_mem _ hv)
  have hnr : fx_R (n : Int) := ⟨by omega, by omega⟩
  have h9 := g hls (fx_okc hnr hr') hR H locs la hP hD hS hl
  refine va_slen hx hb hXs hbl hbA hS d ?_
  have e9 : fx_v ad ex (0, (n : Int)) = .int (Int32.ofNat n) := by
    show Value.int (Int32.ofInt (n : Int)) = _
    congr 1
  rw [List.map_cons, e9] at h9
  exact h9
end FXLaw
