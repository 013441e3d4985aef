/-! Switches -/
theorem zsw_in {α : Type} {x : Int} {kn : Nat → α} {d : Nat} : ∀ {ts : List Nat} {lo : Int}, lo ≤ x → x < lo + ts.length → ∃ t, ts[(x - lo).toNat]? = some t ∧ zsw x kn d lo ts = kn t
  | [], lo, h1, h2 => by simp at h2; omega
  | t :: r, lo, h1, h2 => by
    by_cases e : x = lo
    · exact ⟨t, by rw [e, show (lo - lo).toNat = 0 by omega]; rfl, if_pos e⟩
    · have hl : ((t :: r).length : Int) = r.length + 1 := by simp
      obtain ⟨t', g1, g2⟩ := zsw_in (x := x) (kn := kn) (d := d) (ts := r) (lo := lo + 1) (by omega) (by omega)
      refine ⟨t', ?_, (if_neg e).trans g2⟩
      rw [show (x - lo).toNat = (x - (lo + 1)).toNat + 1 by omega]
      exact g1
theorem zsw_out {α : Type} {x : Int} {kn : Nat → α} {d : Nat} : ∀ {ts : List Nat} {lo : Int}, (x < lo ∨ lo + ts.length ≤ x) → zsw x kn d lo ts = kn d
  | [], _, _ => rfl
  | t :: r, lo, h => by
    have hl : ((t :: r).length : Int) = r.length + 1 := by simp
    have e : x ≠ lo := by omega
    exact (if_neg e).trans (zsw_out (by omega))
theorem zjmps_at {c : List zQ} {off : Nat} : ∀ {os : List Int} {ts : List Nat} {k t : Nat}, zjmps c off os ts = true → ts[k]? = some t → ∃ o, os[k]? = some o ∧ (off : Int) + o = (zoff c t : Int)
  | [], [], k, t, _, h => by simp at h
  | [], _ :: _, _, _, h, _ => by cases h
  | _ :: _, [], _, _, h, _ => by cases h
  | o :: os, u :: ts, k, t, h, hk => by
    simp only [zjmps, zjmp, Bool.and_eq_true, decide_eq_true_eq] at h
    cases k with
    | zero => cases hk; exact ⟨o, rfl, h.1.1⟩
    | succ k => exact zjmps_at (os := os) (ts := ts) (k := k) h.2 hk
section
variable {p : Program} {l : Launch} {e : Env} {R : Room} {s : State} {m : MethodId} {args : Array Value} {below : List Frame} {meth : Method} {c : Code} {H : Heap} {locs : List Loc} {cells slots : Nat} {Q : State → Prop}
variable {w : zW} {ad : Int → Nat} {v0 : Value} {cnt : Int} {cd : List zQ} {nL j : Nat} {b : ByteArray} {lsC : Array Slot} {ls st : List zV} {r : Int × zMem}
variable {kn : Nat → List zV → List zV → Option (Int × zMem)} {off : Nat}
theorem zp_table {x d lo hi : Int} {offs : Array Int} {len dt : Nat} {ts : List Nat} (S : zST p c b w ad v0 cnt nL lsC ls (zI x :: st)) (hn : zNX p l e R s m args below meth c H locs cells slots Q w ad v0 cnt cd nL kn r) (hd : decode b off = .ok (.tableswitch d lo hi offs, len))
    (hj : zjmp cd off d dt = true) (hjs : zjmps cd off offs.toList ts = true) (hhi : hi = lo + (ts.length : Int) - 1) (h : zsw x (fun t => kn t ls st) dt lo ts = some r) : W p l e R s m args below meth c H locs cells slots Q (F0 m off lsC ((zI x :: st).map (zcv ad v0))) := by
  obtain ⟨hx, hb, hl, hlo, hso, hlen⟩ := S
  have hx' : zc32 x := (zvoks_cons.mp hso).1
  have hs := (zvoks_cons.mp hso).2
  by_cases q : lo ≤ x ∧ x < lo + ts.length
  · obtain ⟨t, g1, g2⟩ := zsw_in (kn := fun t => kn t ls st) (d := dt) q.1 q.2
    rw [g2] at h
    obtain ⟨o, g3, g4⟩ := zjmps_at hjs g1
    refine lv_tableIn hx hb hd (by rw [zt_i hx']; omega) (by rw [zt_i hx']; omega) (by rw [zt_i hx', ← Array.getElem?_toList]; exact g3) g4 ?_
    exact hn _ _ _ _ h hl hlo hs hlen
  · rw [zsw_out (by omega)] at h
    simp only [zjmp, Bool.and_eq_true, decide_eq_true_eq] at hj
    refine lv_tableOut hx hb hd (by rw [zt_i hx']; omega) hj.1 ?_
    exact hn _ _ _ _ h hl hlo hs hlen
end
section
variable {p : Program} {l : Launch} {e : Env} {R : Room} {s : State} {m : MethodId} {args : Array Value} {below : List Frame} {meth : Method} {c : Code} {H : Heap} {locs : List Loc} {cells slots : Nat} {Q : State → Prop}
variable {w : zW} {ad : Int → Nat} {v0 : Value} {cnt : Int} {cd : List zQ} {nL j : Nat} {b : ByteArray} {lsC : Array Slot} {ls st : List zV} {r : Int × zMem}
variable {kn : Nat → List zV → List zV → Option (Int × zMem)} {off : Nat}
theorem zlk_at {x d : Int} {dt : Nat} {g : Nat → Option (Int × zMem)} : ∀ {ps : List (Int × Int)} {ts : List Nat}, zjmp cd off d dt = true → zjmps cd off (ps.map (·.2)) ts = true → zlk x g dt (ps.map (·.1)) ts = some r → ∃ t : Nat, (off : Int) + Op.lookupswitch.offset ps d x = (zoff cd t : Int) ∧ g t = some r
  | [], [], hj, _, h => by
    simp only [zjmp, Bool.and_eq_true, decide_eq_true_eq] at hj
    exact ⟨dt, hj.1, h⟩
  | [], _ :: _, _, hjs, _ => by cases hjs
  | _ :: _, [], _, hjs, _ => by cases hjs
  | (a, o) :: ps, t :: ts, hj, hjs, h => by
    simp only [List.map_cons, zjmps, Bool.and_eq_true] at hjs
    simp only [List.map_cons, zlk] at h
    split at h
    · rename_i q
      refine ⟨t, ?_, h⟩
      have h1 := hjs.1
      simp only [zjmp, Bool.and_eq_true, decide_eq_true_eq] at h1
      rw [← h1.1]
      simp [Op.lookupswitch.offset, q]
    · rename_i q
      obtain ⟨t', g1, g2⟩ := zlk_at (ps := ps) (ts := ts) hj hjs.2 h
      refine ⟨t', ?_, g2⟩
      rw [← g1]
      have q' : ¬ a = x := fun z => q z.symm
      simp [Op.lookupswitch.offset, q']
theorem zp_lookup {x d : Int} {ps : Array (Int × Int)} {len dt : Nat} {ts : List Nat} (S : zST p c b w ad v0 cnt nL lsC ls (zI x :: st)) (hn : zNX p l e R s m args below meth c H locs cells slots Q w ad v0 cnt cd nL kn r) (hd : decode b off = .ok (.lookupswitch d ps, len))
    (hj : zjmp cd off d dt = true) (hjs : zjmps cd off (ps.toList.map (·.2)) ts = true) (hso2 : (ps.toList.zip (ps.toList.drop 1)).all (fun (a, next) => a.1 < next.1) = true) (h : zlk x (fun t => kn t ls st) dt (ps.toList.map (·.1)) ts = some r) : W p l e R s m args below meth c H locs cells slots Q (F0 m off lsC ((zI x :: st).map (zcv ad v0))) := by
  obtain ⟨hx, hb, hl, hlo, hso, hlen⟩ := S
  have hx' : zc32 x := (zvoks_cons.mp hso).1
  have hs := (zvoks_cons.mp hso).2
  obtain ⟨t, g1, g2⟩ := zlk_at hj hjs h
  exact lv_lookup hx hb hd hso2 (by rw [zt_i hx']) g1 (hn _ _ _ _ g2 hl hlo hs hlen)
end
