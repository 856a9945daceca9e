section WORDM
variable {G : GX} {h : mH} {Q : mO → mH → Prop}
def strM (k : Nat) : String := ["even", "bowl", "kick", "pendulum", "cart", "pennies", "draw", "lift", "penny", "size", "turn", "repeat", "when", "else", "not", "marked", "right", "above", "loud"].getD k ""
def lnM (k : Nat) : Nat := pkF (fun i => ((strM k).toList.getD i 'a').toNat - 96) (strM k).length
theorem cvJ {a b : Int64} (e : a = b) (k : Q (.inl (some (.long a))) h) : Q (.inl (some (.long b))) h := e ▸ k
theorem strM_b : ∀ k, k < 19 → 3 ≤ (strM k).length ∧ (strM k).length ≤ 8 ∧ ∀ i, i < (strM k).length → 97 ≤ ((strM k).toList.getD i 'a').toNat ∧ ((strM k).toList.getD i 'a').toNat ≤ 122 := by decide +kernel
theorem spM_0 (hi : Iv h) (k : Q (.inl (some (.long (Int64.ofNat 186542)))) h) : WM G jX11_spelled [.int 101, .int 118, .int 101, .int 110, .int 0, .int 0, .int 0, .int 0] h Q :=
  eX11_spelled hi ⟨fun c => absurd c (by decide), fun _ => bX11_spelled_42 hi ⟨fun _ => bX11_spelled_60 hi ⟨fun _ => bX11_spelled_78 hi ⟨fun _ => bX11_spelled_96 hi ⟨fun _ => cvJ (a := Int64.ofNat 186542) (by decide) k, fun c => absurd rfl c⟩, fun c => absurd rfl c⟩, fun c => absurd rfl c⟩, fun c => absurd rfl c⟩⟩
theorem ltM_0 (hi : Iv h) (k : Q (.inl (some (.long (Int64.ofNat 186542)))) h) : WM G jX11_letters [.int 0] h Q :=
  eX11_letters hi ⟨fun _ => spM_0 hi (bX11_letters_103 hi k), fun c => absurd c (by decide), fun c => absurd c (by decide), fun c => absurd c (by decide), fun c => absurd c (by decide), fun c => absurd c (by decide), fun c => absurd c (by decide), fun c => absurd c (by decide), fun c => absurd c (by decide), fun c => absurd c (by decide), fun c => absurd c (by decide), fun c => absurd c (by decide), fun c => absurd c (by decide), fun c => absurd c (by decide), fun c => absurd c (by decide), fun c => absurd c (by decide), fun c => absurd c (by decide), fun c => absurd c (by decide), fun c _ _ _ _ _ _ _ _ _ _ _ _ _ _ _ _ _ => absurd rfl c⟩
theorem spM_1 (hi : Iv h) (k : Q (.inl (some (.long (Int64.ofNat 81644)))) h) : WM G jX11_spelled [.int 98, .int 111, .int 119, .int 108, .int 0, .int 0, .int 0, .int 0] h Q :=
  eX11_spelled hi ⟨fun c => absurd c (by decide), fun _ => bX11_spelled_42 hi ⟨fun _ => bX11_spelled_60 hi ⟨fun _ => bX11_spelled_78 hi ⟨fun _ => bX11_spelled_96 hi ⟨fun _ => cvJ (a := Int64.ofNat 81644) (by decide) k, fun c => absurd rfl c⟩, fun c => absurd rfl c⟩, fun c => absurd rfl c⟩, fun c => absurd rfl c⟩⟩
theorem ltM_1 (hi : Iv h) (k : Q (.inl (some (.long (Int64.ofNat 81644)))) h) : WM G jX11_letters [.int 1] h Q :=
  eX11_letters hi ⟨fun c => absurd c (by decide), fun _ => spM_1 hi (bX11_letters_119 hi k), fun c => absurd c (by decide), fun c => absurd c (by decide), fun c => absurd c (by decide), fun c => absurd c (by decide), fun c => absurd c (by decide), fun c => absurd c (by decide), fun c => absurd c (by decide), fun c => absurd c (by decide), fun c => absurd c (by decide), fun c => absurd c (by decide), fun c => absurd c (by decide), fun c => absurd c (by decide), fun c => absurd c (by decide), fun c => absurd c (by decide), fun c => absurd c (by decide), fun c => absurd c (by decide), fun _ c _ _ _ _ _ _ _ _ _ _ _ _ _ _ _ _ => absurd rfl c⟩
theorem spM_2 (hi : Iv h) (k : Q (.inl (some (.long (Int64.ofNat 369771)))) h) : WM G jX11_spelled [.int 107, .int 105, .int 99, .int 107, .int 0, .int 0, .int 0, .int 0] h Q :=
  eX11_spelled hi ⟨fun c => absurd c (by decide), fun _ => bX11_spelled_42 hi ⟨fun _ => bX11_spelled_60 hi ⟨fun _ => bX11_spelled_78 hi ⟨fun _ => bX11_spelled_96 hi ⟨fun _ => cvJ (a := Int64.ofNat 369771) (by decide) k, fun c => absurd rfl c⟩, fun c => absurd rfl c⟩, fun c => absurd rfl c⟩, fun c => absurd rfl c⟩⟩
theorem ltM_2 (hi : Iv h) (k : Q (.inl (some (.long (Int64.ofNat 369771)))) h) : WM G jX11_letters [.int 2] h Q :=
  eX11_letters hi ⟨fun c => absurd c (by decide), fun c => absurd c (by decide), fun _ => spM_2 hi (bX11_letters_135 hi k), fun c => absurd c (by decide), fun c => absurd c (by decide), fun c => absurd c (by decide), fun c => absurd c (by decide), fun c => absurd c (by decide), fun c => absurd c (by decide), fun c => absurd c (by decide), fun c => absurd c (by decide), fun c => absurd c (by decide), fun c => absurd c (by decide), fun c => absurd c (by decide), fun c => absurd c (by decide), fun c => absurd c (by decide), fun c => absurd c (by decide), fun c => absurd c (by decide), fun _ _ c _ _ _ _ _ _ _ _ _ _ _ _ _ _ _ => absurd rfl c⟩
theorem spM_3 (hi : Iv h) (k : Q (.inl (some (.long (Int64.ofNat 555599180461)))) h) : WM G jX11_spelled [.int 112, .int 101, .int 110, .int 100, .int 117, .int 108, .int 117, .int 109] h Q :=
  eX11_spelled hi ⟨fun c => absurd c (by decide), fun _ => bX11_spelled_42 hi ⟨fun c => absurd c (by decide), fun _ => bX11_spelled_60 hi ⟨fun c => absurd c (by decide), fun _ => bX11_spelled_78 hi ⟨fun c => absurd c (by decide), fun _ => bX11_spelled_96 hi ⟨fun c => absurd c (by decide), fun _ => cvJ (a := Int64.ofNat 555599180461) (by decide) k⟩⟩⟩⟩⟩
theorem ltM_3 (hi : Iv h) (k : Q (.inl (some (.long (Int64.ofNat 555599180461)))) h) : WM G jX11_letters [.int 3] h Q :=
  eX11_letters hi ⟨fun c => absurd c (by decide), fun c => absurd c (by decide), fun c => absurd c (by decide), fun _ => spM_3 hi (bX11_letters_155 hi k), fun c => absurd c (by decide), fun c => absurd c (by decide), fun c => absurd c (by decide), fun c => absurd c (by decide), fun c => absurd c (by decide), fun c => absurd c (by decide), fun c => absurd c (by decide), fun c => absurd c (by decide), fun c => absurd c (by decide), fun c => absurd c (by decide), fun c => absurd c (by decide), fun c => absurd c (by decide), fun c => absurd c (by decide), fun c => absurd c (by decide), fun _ _ _ c _ _ _ _ _ _ _ _ _ _ _ _ _ _ => absurd rfl c⟩
theorem spM_4 (hi : Iv h) (k : Q (.inl (some (.long (Int64.ofNat 99924)))) h) : WM G jX11_spelled [.int 99, .int 97, .int 114, .int 116, .int 0, .int 0, .int 0, .int 0] h Q :=
  eX11_spelled hi ⟨fun c => absurd c (by decide), fun _ => bX11_spelled_42 hi ⟨fun _ => bX11_spelled_60 hi ⟨fun _ => bX11_spelled_78 hi ⟨fun _ => bX11_spelled_96 hi ⟨fun _ => cvJ (a := Int64.ofNat 99924) (by decide) k, fun c => absurd rfl c⟩, fun c => absurd rfl c⟩, fun c => absurd rfl c⟩, fun c => absurd rfl c⟩⟩
theorem ltM_4 (hi : Iv h) (k : Q (.inl (some (.long (Int64.ofNat 99924)))) h) : WM G jX11_letters [.int 4] h Q :=
  eX11_letters hi ⟨fun c => absurd c (by decide), fun c => absurd c (by decide), fun c => absurd c (by decide), fun c => absurd c (by decide), fun _ => spM_4 hi (bX11_letters_171 hi k), fun c => absurd c (by decide), fun c => absurd c (by decide), fun c => absurd c (by decide), fun c => absurd c (by decide), fun c => absurd c (by decide), fun c => absurd c (by decide), fun c => absurd c (by decide), fun c => absurd c (by decide), fun c => absurd c (by decide), fun c => absurd c (by decide), fun c => absurd c (by decide), fun c => absurd c (by decide), fun c => absurd c (by decide), fun _ _ _ _ c _ _ _ _ _ _ _ _ _ _ _ _ _ => absurd rfl c⟩
theorem spM_5 (hi : Iv h) (k : Q (.inl (some (.long (Int64.ofNat 17362789555)))) h) : WM G jX11_spelled [.int 112, .int 101, .int 110, .int 110, .int 105, .int 101, .int 115, .int 0] h Q :=
  eX11_spelled hi ⟨fun c => absurd c (by decide), fun _ => bX11_spelled_42 hi ⟨fun c => absurd c (by decide), fun _ => bX11_spelled_60 hi ⟨fun c => absurd c (by decide), fun _ => bX11_spelled_78 hi ⟨fun c => absurd c (by decide), fun _ => bX11_spelled_96 hi ⟨fun _ => cvJ (a := Int64.ofNat 17362789555) (by decide) k, fun c => absurd rfl c⟩⟩⟩⟩⟩
theorem ltM_5 (hi : Iv h) (k : Q (.inl (some (.long (Int64.ofNat 17362789555)))) h) : WM G jX11_letters [.int 5] h Q :=
  eX11_letters hi ⟨fun c => absurd c (by decide), fun c => absurd c (by decide), fun c => absurd c (by decide), fun c => absurd c (by decide), fun c => absurd c (by decide), fun _ => spM_5 hi (bX11_letters_190 hi k), fun c => absurd c (by decide), fun c => absurd c (by decide), fun c => absurd c (by decide), fun c => absurd c (by decide), fun c => absurd c (by decide), fun c => absurd c (by decide), fun c => absurd c (by decide), fun c => absurd c (by decide), fun c => absurd c (by decide), fun c => absurd c (by decide), fun c => absurd c (by decide), fun c => absurd c (by decide), fun _ _ _ _ _ c _ _ _ _ _ _ _ _ _ _ _ _ => absurd rfl c⟩
theorem spM_6 (hi : Iv h) (k : Q (.inl (some (.long (Int64.ofNat 149559)))) h) : WM G jX11_spelled [.int 100, .int 114, .int 97, .int 119, .int 0, .int 0, .int 0, .int 0] h Q :=
  eX11_spelled hi ⟨fun c => absurd c (by decide), fun _ => bX11_spelled_42 hi ⟨fun _ => bX11_spelled_60 hi ⟨fun _ => bX11_spelled_78 hi ⟨fun _ => bX11_spelled_96 hi ⟨fun _ => cvJ (a := Int64.ofNat 149559) (by decide) k, fun c => absurd rfl c⟩, fun c => absurd rfl c⟩, fun c => absurd rfl c⟩, fun c => absurd rfl c⟩⟩
theorem ltM_6 (hi : Iv h) (k : Q (.inl (some (.long (Int64.ofNat 149559)))) h) : WM G jX11_letters [.int 6] h Q :=
  eX11_letters hi ⟨fun c => absurd c (by decide), fun c => absurd c (by decide), fun c => absurd c (by decide), fun c => absurd c (by decide), fun c => absurd c (by decide), fun c => absurd c (by decide), fun _ => spM_6 hi (bX11_letters_206 hi k), fun c => absurd c (by decide), fun c => absurd c (by decide), fun c => absurd c (by decide), fun c => absurd c (by decide), fun c => absurd c (by decide), fun c => absurd c (by decide), fun c => absurd c (by decide), fun c => absurd c (by decide), fun c => absurd c (by decide), fun c => absurd c (by decide), fun c => absurd c (by decide), fun _ _ _ _ _ _ c _ _ _ _ _ _ _ _ _ _ _ => absurd rfl c⟩
theorem spM_7 (hi : Iv h) (k : Q (.inl (some (.long (Int64.ofNat 402644)))) h) : WM G jX11_spelled [.int 108, .int 105, .int 102, .int 116, .int 0, .int 0, .int 0, .int 0] h Q :=
  eX11_spelled hi ⟨fun c => absurd c (by decide), fun _ => bX11_spelled_42 hi ⟨fun _ => bX11_spelled_60 hi ⟨fun _ => bX11_spelled_78 hi ⟨fun _ => bX11_spelled_96 hi ⟨fun _ => cvJ (a := Int64.ofNat 402644) (by decide) k, fun c => absurd rfl c⟩, fun c => absurd rfl c⟩, fun c => absurd rfl c⟩, fun c => absurd rfl c⟩⟩
theorem ltM_7 (hi : Iv h) (k : Q (.inl (some (.long (Int64.ofNat 402644)))) h) : WM G jX11_letters [.int 7] h Q :=
  eX11_letters hi ⟨fun c => absurd c (by decide), fun c => absurd c (by decide), fun c => absurd c (by decide), fun c => absurd c (by decide), fun c => absurd c (by decide), fun c => absurd c (by decide), fun c => absurd c (by decide), fun _ => spM_7 hi (bX11_letters_222 hi k), fun c => absurd c (by decide), fun c => absurd c (by decide), fun c => absurd c (by decide), fun c => absurd c (by decide), fun c => absurd c (by decide), fun c => absurd c (by decide), fun c => absurd c (by decide), fun c => absurd c (by decide), fun c => absurd c (by decide), fun c => absurd c (by decide), fun _ _ _ _ _ _ _ c _ _ _ _ _ _ _ _ _ _ => absurd rfl c⟩
theorem spM_8 (hi : Iv h) (k : Q (.inl (some (.long (Int64.ofNat 16955865)))) h) : WM G jX11_spelled [.int 112, .int 101, .int 110, .int 110, .int 121, .int 0, .int 0, .int 0] h Q :=
  eX11_spelled hi ⟨fun c => absurd c (by decide), fun _ => bX11_spelled_42 hi ⟨fun c => absurd c (by decide), fun _ => bX11_spelled_60 hi ⟨fun _ => bX11_spelled_78 hi ⟨fun _ => bX11_spelled_96 hi ⟨fun _ => cvJ (a := Int64.ofNat 16955865) (by decide) k, fun c => absurd rfl c⟩, fun c => absurd rfl c⟩, fun c => absurd rfl c⟩⟩⟩
theorem ltM_8 (hi : Iv h) (k : Q (.inl (some (.long (Int64.ofNat 16955865)))) h) : WM G jX11_letters [.int 8] h Q :=
  eX11_letters hi ⟨fun c => absurd c (by decide), fun c => absurd c (by decide), fun c => absurd c (by decide), fun c => absurd c (by decide), fun c => absurd c (by decide), fun c => absurd c (by decide), fun c => absurd c (by decide), fun c => absurd c (by decide), fun _ => spM_8 hi (bX11_letters_239 hi k), fun c => absurd c (by decide), fun c => absurd c (by decide), fun c => absurd c (by decide), fun c => absurd c (by decide), fun c => absurd c (by decide), fun c => absurd c (by decide), fun c => absurd c (by decide), fun c => absurd c (by decide), fun c => absurd c (by decide), fun _ _ _ _ _ _ _ _ c _ _ _ _ _ _ _ _ _ => absurd rfl c⟩
theorem spM_9 (hi : Iv h) (k : Q (.inl (some (.long (Int64.ofNat 632645)))) h) : WM G jX11_spelled [.int 115, .int 105, .int 122, .int 101, .int 0, .int 0, .int 0, .int 0] h Q :=
  eX11_spelled hi ⟨fun c => absurd c (by decide), fun _ => bX11_spelled_42 hi ⟨fun _ => bX11_spelled_60 hi ⟨fun _ => bX11_spelled_78 hi ⟨fun _ => bX11_spelled_96 hi ⟨fun _ => cvJ (a := Int64.ofNat 632645) (by decide) k, fun c => absurd rfl c⟩, fun c => absurd rfl c⟩, fun c => absurd rfl c⟩, fun c => absurd rfl c⟩⟩
theorem ltM_9 (hi : Iv h) (k : Q (.inl (some (.long (Int64.ofNat 632645)))) h) : WM G jX11_letters [.int 9] h Q :=
  eX11_letters hi ⟨fun c => absurd c (by decide), fun c => absurd c (by decide), fun c => absurd c (by decide), fun c => absurd c (by decide), fun c => absurd c (by decide), fun c => absurd c (by decide), fun c => absurd c (by decide), fun c => absurd c (by decide), fun c => absurd c (by decide), fun _ => spM_9 hi (bX11_letters_255 hi k), fun c => absurd c (by decide), fun c => absurd c (by decide), fun c => absurd c (by decide), fun c => absurd c (by decide), fun c => absurd c (by decide), fun c => absurd c (by decide), fun c => absurd c (by decide), fun c => absurd c (by decide), fun _ _ _ _ _ _ _ _ _ c _ _ _ _ _ _ _ _ => absurd rfl c⟩
theorem spM_10 (hi : Iv h) (k : Q (.inl (some (.long (Int64.ofNat 677454)))) h) : WM G jX11_spelled [.int 116, .int 117, .int 114, .int 110, .int 0, .int 0, .int 0, .int 0] h Q :=
  eX11_spelled hi ⟨fun c => absurd c (by decide), fun _ => bX11_spelled_42 hi ⟨fun _ => bX11_spelled_60 hi ⟨fun _ => bX11_spelled_78 hi ⟨fun _ => bX11_spelled_96 hi ⟨fun _ => cvJ (a := Int64.ofNat 677454) (by decide) k, fun c => absurd rfl c⟩, fun c => absurd rfl c⟩, fun c => absurd rfl c⟩, fun c => absurd rfl c⟩⟩
theorem ltM_10 (hi : Iv h) (k : Q (.inl (some (.long (Int64.ofNat 677454)))) h) : WM G jX11_letters [.int 10] h Q :=
  eX11_letters hi ⟨fun c => absurd c (by decide), fun c => absurd c (by decide), fun c => absurd c (by decide), fun c => absurd c (by decide), fun c => absurd c (by decide), fun c => absurd c (by decide), fun c => absurd c (by decide), fun c => absurd c (by decide), fun c => absurd c (by decide), fun c => absurd c (by decide), fun _ => spM_10 hi (bX11_letters_271 hi k), fun c => absurd c (by decide), fun c => absurd c (by decide), fun c => absurd c (by decide), fun c => absurd c (by decide), fun c => absurd c (by decide), fun c => absurd c (by decide), fun c => absurd c (by decide), fun _ _ _ _ _ _ _ _ _ _ c _ _ _ _ _ _ _ => absurd rfl c⟩
theorem spM_11 (hi : Iv h) (k : Q (.inl (some (.long (Int64.ofNat 609752116)))) h) : WM G jX11_spelled [.int 114, .int 101, .int 112, .int 101, .int 97, .int 116, .int 0, .int 0] h Q :=
  eX11_spelled hi ⟨fun c => absurd c (by decide), fun _ => bX11_spelled_42 hi ⟨fun c => absurd c (by decide), fun _ => bX11_spelled_60 hi ⟨fun c => absurd c (by decide), fun _ => bX11_spelled_78 hi ⟨fun _ => bX11_spelled_96 hi ⟨fun _ => cvJ (a := Int64.ofNat 609752116) (by decide) k, fun c => absurd rfl c⟩, fun c => absurd rfl c⟩⟩⟩⟩
theorem ltM_11 (hi : Iv h) (k : Q (.inl (some (.long (Int64.ofNat 609752116)))) h) : WM G jX11_letters [.int 11] h Q :=
  eX11_letters hi ⟨fun c => absurd c (by decide), fun c => absurd c (by decide), fun c => absurd c (by decide), fun c => absurd c (by decide), fun c => absurd c (by decide), fun c => absurd c (by decide), fun c => absurd c (by decide), fun c => absurd c (by decide), fun c => absurd c (by decide), fun c => absurd c (by decide), fun c => absurd c (by decide), fun _ => spM_11 hi (bX11_letters_289 hi k), fun c => absurd c (by decide), fun c => absurd c (by decide), fun c => absurd c (by decide), fun c => absurd c (by decide), fun c => absurd c (by decide), fun c => absurd c (by decide), fun _ _ _ _ _ _ _ _ _ _ _ c _ _ _ _ _ _ => absurd rfl c⟩
theorem spM_12 (hi : Iv h) (k : Q (.inl (some (.long (Int64.ofNat 762030)))) h) : WM G jX11_spelled [.int 119, .int 104, .int 101, .int 110, .int 0, .int 0, .int 0, .int 0] h Q :=
  eX11_spelled hi ⟨fun c => absurd c (by decide), fun _ => bX11_spelled_42 hi ⟨fun _ => bX11_spelled_60 hi ⟨fun _ => bX11_spelled_78 hi ⟨fun _ => bX11_spelled_96 hi ⟨fun _ => cvJ (a := Int64.ofNat 762030) (by decide) k, fun c => absurd rfl c⟩, fun c => absurd rfl c⟩, fun c => absurd rfl c⟩, fun c => absurd rfl c⟩⟩
theorem ltM_12 (hi : Iv h) (k : Q (.inl (some (.long (Int64.ofNat 762030)))) h) : WM G jX11_letters [.int 12] h Q :=
  eX11_letters hi ⟨fun c => absurd c (by decide), fun c => absurd c (by decide), fun c => absurd c (by decide), fun c => absurd c (by decide), fun c => absurd c (by decide), fun c => absurd c (by decide), fun c => absurd c (by decide), fun c => absurd c (by decide), fun c => absurd c (by decide), fun c => absurd c (by decide), fun c => absurd c (by decide), fun c => absurd c (by decide), fun _ => spM_12 hi (bX11_letters_305 hi k), fun c => absurd c (by decide), fun c => absurd c (by decide), fun c => absurd c (by decide), fun c => absurd c (by decide), fun c => absurd c (by decide), fun _ _ _ _ _ _ _ _ _ _ _ _ c _ _ _ _ _ => absurd rfl c⟩
theorem spM_13 (hi : Iv h) (k : Q (.inl (some (.long (Int64.ofNat 176741)))) h) : WM G jX11_spelled [.int 101, .int 108, .int 115, .int 101, .int 0, .int 0, .int 0, .int 0] h Q :=
  eX11_spelled hi ⟨fun c => absurd c (by decide), fun _ => bX11_spelled_42 hi ⟨fun _ => bX11_spelled_60 hi ⟨fun _ => bX11_spelled_78 hi ⟨fun _ => bX11_spelled_96 hi ⟨fun _ => cvJ (a := Int64.ofNat 176741) (by decide) k, fun c => absurd rfl c⟩, fun c => absurd rfl c⟩, fun c => absurd rfl c⟩, fun c => absurd rfl c⟩⟩
theorem ltM_13 (hi : Iv h) (k : Q (.inl (some (.long (Int64.ofNat 176741)))) h) : WM G jX11_letters [.int 13] h Q :=
  eX11_letters hi ⟨fun c => absurd c (by decide), fun c => absurd c (by decide), fun c => absurd c (by decide), fun c => absurd c (by decide), fun c => absurd c (by decide), fun c => absurd c (by decide), fun c => absurd c (by decide), fun c => absurd c (by decide), fun c => absurd c (by decide), fun c => absurd c (by decide), fun c => absurd c (by decide), fun c => absurd c (by decide), fun c => absurd c (by decide), fun _ => spM_13 hi (bX11_letters_321 hi k), fun c => absurd c (by decide), fun c => absurd c (by decide), fun c => absurd c (by decide), fun c => absurd c (by decide), fun _ _ _ _ _ _ _ _ _ _ _ _ _ c _ _ _ _ => absurd rfl c⟩
theorem spM_14 (hi : Iv h) (k : Q (.inl (some (.long (Int64.ofNat 14836)))) h) : WM G jX11_spelled [.int 110, .int 111, .int 116, .int 0, .int 0, .int 0, .int 0, .int 0] h Q :=
  eX11_spelled hi ⟨fun _ => bX11_spelled_42 hi ⟨fun _ => bX11_spelled_60 hi ⟨fun _ => bX11_spelled_78 hi ⟨fun _ => bX11_spelled_96 hi ⟨fun _ => cvJ (a := Int64.ofNat 14836) (by decide) k, fun c => absurd rfl c⟩, fun c => absurd rfl c⟩, fun c => absurd rfl c⟩, fun c => absurd rfl c⟩, fun c => absurd rfl c⟩
theorem ltM_14 (hi : Iv h) (k : Q (.inl (some (.long (Int64.ofNat 14836)))) h) : WM G jX11_letters [.int 14] h Q :=
  eX11_letters hi ⟨fun c => absurd c (by decide), fun c => absurd c (by decide), fun c => absurd c (by decide), fun c => absurd c (by decide), fun c => absurd c (by decide), fun c => absurd c (by decide), fun c => absurd c (by decide), fun c => absurd c (by decide), fun c => absurd c (by decide), fun c => absurd c (by decide), fun c => absurd c (by decide), fun c => absurd c (by decide), fun c => absurd c (by decide), fun c => absurd c (by decide), fun _ => spM_14 hi (bX11_letters_336 hi k), fun c => absurd c (by decide), fun c => absurd c (by decide), fun c => absurd c (by decide), fun _ _ _ _ _ _ _ _ _ _ _ _ _ _ c _ _ _ => absurd rfl c⟩
theorem spM_15 (hi : Iv h) (k : Q (.inl (some (.long (Int64.ofNat 437857444)))) h) : WM G jX11_spelled [.int 109, .int 97, .int 114, .int 107, .int 101, .int 100, .int 0, .int 0] h Q :=
  eX11_spelled hi ⟨fun c => absurd c (by decide), fun _ => bX11_spelled_42 hi ⟨fun c => absurd c (by decide), fun _ => bX11_spelled_60 hi ⟨fun c => absurd c (by decide), fun _ => bX11_spelled_78 hi ⟨fun _ => bX11_spelled_96 hi ⟨fun _ => cvJ (a := Int64.ofNat 437857444) (by decide) k, fun c => absurd rfl c⟩, fun c => absurd rfl c⟩⟩⟩⟩
theorem ltM_15 (hi : Iv h) (k : Q (.inl (some (.long (Int64.ofNat 437857444)))) h) : WM G jX11_letters [.int 15] h Q :=
  eX11_letters hi ⟨fun c => absurd c (by decide), fun c => absurd c (by decide), fun c => absurd c (by decide), fun c => absurd c (by decide), fun c => absurd c (by decide), fun c => absurd c (by decide), fun c => absurd c (by decide), fun c => absurd c (by decide), fun c => absurd c (by decide), fun c => absurd c (by decide), fun c => absurd c (by decide), fun c => absurd c (by decide), fun c => absurd c (by decide), fun c => absurd c (by decide), fun c => absurd c (by decide), fun _ => spM_15 hi (bX11_letters_354 hi k), fun c => absurd c (by decide), fun c => absurd c (by decide), fun _ _ _ _ _ _ _ _ _ _ _ _ _ _ _ c _ _ => absurd rfl c⟩
theorem spM_16 (hi : Iv h) (k : Q (.inl (some (.long (Int64.ofNat 19176724)))) h) : WM G jX11_spelled [.int 114, .int 105, .int 103, .int 104, .int 116, .int 0, .int 0, .int 0] h Q :=
  eX11_spelled hi ⟨fun c => absurd c (by decide), fun _ => bX11_spelled_42 hi ⟨fun c => absurd c (by decide), fun _ => bX11_spelled_60 hi ⟨fun _ => bX11_spelled_78 hi ⟨fun _ => bX11_spelled_96 hi ⟨fun _ => cvJ (a := Int64.ofNat 19176724) (by decide) k, fun c => absurd rfl c⟩, fun c => absurd rfl c⟩, fun c => absurd rfl c⟩⟩⟩
theorem ltM_16 (hi : Iv h) (k : Q (.inl (some (.long (Int64.ofNat 19176724)))) h) : WM G jX11_letters [.int 16] h Q :=
  eX11_letters hi ⟨fun c => absurd c (by decide), fun c => absurd c (by decide), fun c => absurd c (by decide), fun c => absurd c (by decide), fun c => absurd c (by decide), fun c => absurd c (by decide), fun c => absurd c (by decide), fun c => absurd c (by decide), fun c => absurd c (by decide), fun c => absurd c (by decide), fun c => absurd c (by decide), fun c => absurd c (by decide), fun c => absurd c (by decide), fun c => absurd c (by decide), fun c => absurd c (by decide), fun c => absurd c (by decide), fun _ => spM_16 hi (bX11_letters_371 hi k), fun c => absurd c (by decide), fun _ _ _ _ _ _ _ _ _ _ _ _ _ _ _ _ c _ => absurd rfl c⟩
theorem spM_17 (hi : Iv h) (k : Q (.inl (some (.long (Int64.ofNat 1130181)))) h) : WM G jX11_spelled [.int 97, .int 98, .int 111, .int 118, .int 101, .int 0, .int 0, .int 0] h Q :=
  eX11_spelled hi ⟨fun c => absurd c (by decide), fun _ => bX11_spelled_42 hi ⟨fun c => absurd c (by decide), fun _ => bX11_spelled_60 hi ⟨fun _ => bX11_spelled_78 hi ⟨fun _ => bX11_spelled_96 hi ⟨fun _ => cvJ (a := Int64.ofNat 1130181) (by decide) k, fun c => absurd rfl c⟩, fun c => absurd rfl c⟩, fun c => absurd rfl c⟩⟩⟩
theorem ltM_17 (hi : Iv h) (k : Q (.inl (some (.long (Int64.ofNat 1130181)))) h) : WM G jX11_letters [.int 17] h Q :=
  eX11_letters hi ⟨fun c => absurd c (by decide), fun c => absurd c (by decide), fun c => absurd c (by decide), fun c => absurd c (by decide), fun c => absurd c (by decide), fun c => absurd c (by decide), fun c => absurd c (by decide), fun c => absurd c (by decide), fun c => absurd c (by decide), fun c => absurd c (by decide), fun c => absurd c (by decide), fun c => absurd c (by decide), fun c => absurd c (by decide), fun c => absurd c (by decide), fun c => absurd c (by decide), fun c => absurd c (by decide), fun c => absurd c (by decide), fun _ => spM_17 hi (bX11_letters_388 hi k), fun _ _ _ _ _ _ _ _ _ _ _ _ _ _ _ _ _ c => absurd rfl c⟩
theorem spM_18 (hi : Iv h) (k : Q (.inl (some (.long (Int64.ofNat 409252)))) h) : WM G jX11_spelled [.int 108, .int 111, .int 117, .int 100, .int 0, .int 0, .int 0, .int 0] h Q :=
  eX11_spelled hi ⟨fun c => absurd c (by decide), fun _ => bX11_spelled_42 hi ⟨fun _ => bX11_spelled_60 hi ⟨fun _ => bX11_spelled_78 hi ⟨fun _ => bX11_spelled_96 hi ⟨fun _ => cvJ (a := Int64.ofNat 409252) (by decide) k, fun c => absurd rfl c⟩, fun c => absurd rfl c⟩, fun c => absurd rfl c⟩, fun c => absurd rfl c⟩⟩
theorem ltM_18 (hi : Iv h) (k : Q (.inl (some (.long (Int64.ofNat 409252)))) h) : WM G jX11_letters [.int 18] h Q :=
  eX11_letters hi ⟨fun c => absurd c (by decide), fun c => absurd c (by decide), fun c => absurd c (by decide), fun c => absurd c (by decide), fun c => absurd c (by decide), fun c => absurd c (by decide), fun c => absurd c (by decide), fun c => absurd c (by decide), fun c => absurd c (by decide), fun c => absurd c (by decide), fun c => absurd c (by decide), fun c => absurd c (by decide), fun c => absurd c (by decide), fun c => absurd c (by decide), fun c => absurd c (by decide), fun c => absurd c (by decide), fun c => absurd c (by decide), fun c => absurd c (by decide), fun _ _ _ _ _ _ _ _ _ _ _ _ _ _ _ _ _ _ => spM_18 hi (bX11_letters_404 hi k)⟩
theorem mX11_letters {q : Nat} (hi : Iv h) (hq : q < 19) (k : Q (.inl (some (.long (Int64.ofNat (lnM q))))) h) : WM G jX11_letters [.int (iI q)] h Q := by
  rcases (show q = 0 ∨ q = 1 ∨ q = 2 ∨ q = 3 ∨ q = 4 ∨ q = 5 ∨ q = 6 ∨ q = 7 ∨ q = 8 ∨ q = 9 ∨ q = 10 ∨ q = 11 ∨ q = 12 ∨ q = 13 ∨ q = 14 ∨ q = 15 ∨ q = 16 ∨ q = 17 ∨ q = 18 from by omega) with rfl | rfl | rfl | rfl | rfl | rfl | rfl | rfl | rfl | rfl | rfl | rfl | rfl | rfl | rfl | rfl | rfl | rfl | rfl
  · rw [show lnM 0 = 186542 from by decide +kernel] at k
    exact ltM_0 hi k
  · rw [show lnM 1 = 81644 from by decide +kernel] at k
    exact ltM_1 hi k
  · rw [show lnM 2 = 369771 from by decide +kernel] at k
    exact ltM_2 hi k
  · rw [show lnM 3 = 555599180461 from by decide +kernel] at k
    exact ltM_3 hi k
  · rw [show lnM 4 = 99924 from by decide +kernel] at k
    exact ltM_4 hi k
  · rw [show lnM 5 = 17362789555 from by decide +kernel] at k
    exact ltM_5 hi k
  · rw [show lnM 6 = 149559 from by decide +kernel] at k
    exact ltM_6 hi k
  · rw [show lnM 7 = 402644 from by decide +kernel] at k
    exact ltM_7 hi k
  · rw [show lnM 8 = 16955865 from by decide +kernel] at k
    exact ltM_8 hi k
  · rw [show lnM 9 = 632645 from by decide +kernel] at k
    exact ltM_9 hi k
  · rw [show lnM 10 = 677454 from by decide +kernel] at k
    exact ltM_10 hi k
  · rw [show lnM 11 = 609752116 from by decide +kernel] at k
    exact ltM_11 hi k
  · rw [show lnM 12 = 762030 from by decide +kernel] at k
    exact ltM_12 hi k
  · rw [show lnM 13 = 176741 from by decide +kernel] at k
    exact ltM_13 hi k
  · rw [show lnM 14 = 14836 from by decide +kernel] at k
    exact ltM_14 hi k
  · rw [show lnM 15 = 437857444 from by decide +kernel] at k
    exact ltM_15 hi k
  · rw [show lnM 16 = 19176724 from by decide +kernel] at k
    exact ltM_16 hi k
  · rw [show lnM 17 = 1130181 from by decide +kernel] at k
    exact ltM_17 hi k
  · rw [show lnM 18 = 409252 from by decide +kernel] at k
    exact ltM_18 hi k
theorem mX11_is {z : Nat → Int} {n f q : Nat} (hi : Iv h) (hf : f ≤ n) (hn4 : n ≤ 400) (ht : TM z n f h) (hq : q < 19) (k : Q (.inl (some (.int (bL (wdS z n f (strM q)))))) h) : WM G jX11_is [.ref 83, .int (iI q)] h Q := by
  obtain ⟨t13, t14, t15, t16, t17, t18, t19, t20⟩ := ht
  obtain ⟨s1, s2, s3⟩ := strM_b q hq
  obtain ⟨en1, en2, en3⟩ := enT_b (z := z) hf
  have kc := kdT_c (z := z) (n := n) (f := f)
  have so1 : soT z n f = 1 ↔ kdT z n f = 1 := by
    unfold soT
    split
    · rename_i c
      rw [c]
      split <;> omega
    · exact Iff.rfl
  have sob : soT z n f ≤ 4 := by
    unfold soT
    split
    · split <;> omega
    · have := kc.2.2.2.2; omega
  have no : ¬ (kdT z n f = 1 ∧ enT z n f - f = (strM q).length ∧ ∀ i, i < (strM q).length → z (f + i) = (((strM q).toList.getD i 'a').toNat : Int)) → Q (.inl (some (.int 0))) h := fun w => by
    unfold wdS at k
    rw [decide_eq_false w] at k
    exact k
  refine eX11_is hi ?_
  rw [t15, t17, n_1, eq_n (by omega) (by omega), so1, show (9 : Int32) = iI ((9 : Nat) : Int) from by decide, le_n (by omega) (by omega)]
  refine ⟨fun c => no (fun w => c w.1), fun c => ⟨fun c9 => no (fun w => by have := w.2.1; omega), fun c9 => mX11_letters hi hq ?_⟩⟩
  rw [t20 c]
  refine bX11_is_25 hi ?_
  rw [lg_0]
  have hfn := (kc.2.1.mp c).1
  have hL := (kc.2.1.mp c).2
  have hal : ∀ j, j < enT z n f - f → cL (z (f + j)) = true := fun j hj => by
    by_cases cj : j = 0
    · subst cj; exact hL
    · have en : enT z n f = rn cL z n (f + 1) := by unfold enT; rw [if_neg (by omega), if_pos hL]
      exact (rn_b (p := cL) (z := z) (n := n) (n - (f + 1)) (f + 1) (by omega)).2.2.1 (f + j) (by omega) (by omega)
  have hd : ∀ i, i < enT z n f - f → 1 ≤ leT z f i ∧ leT z f i < 32 := fun i hi => by
    have := hal i hi
    have hh : 97 ≤ z (f + i) ∧ z (f + i) ≤ 122 := of_decide_eq_true this
    unfold leT
    omega
  have he : ∀ i, i < (strM q).length → 1 ≤ (fun i => ((strM q).toList.getD i 'a').toNat - 96) i ∧ (fun i => ((strM q).toList.getD i 'a').toNat - 96) i < 32 := fun i hi => by
    have := s3 i hi
    show 1 ≤ ((strM q).toList.getD i 'a').toNat - 96 ∧ ((strM q).toList.getD i 'a').toNat - 96 < 32
    omega
  have b1 := pkF_b (d := leT z f) (enT z n f - f) (fun i hi => (hd i hi).2)
  have b2 := pkF_b (d := fun i => ((strM q).toList.getD i 'a').toNat - 96) (strM q).length (fun i hi => (he i hi).2)
  have p1 : (32 : Nat) ^ (enT z n f - f) ≤ 32 ^ 8 := Nat.pow_le_pow_right (by omega) (by omega)
  have p2 : (32 : Nat) ^ (strM q).length ≤ 32 ^ 8 := Nat.pow_le_pow_right (by omega) (by omega)
  have p3 : (32 : Nat) ^ 8 < 2 ^ 60 := by decide
  rw [show min 8 (enT z n f - f) = enT z n f - f from by omega]
  have key : (Int64.ofNat (pkF (leT z f) (enT z n f - f)) = Int64.ofNat (lnM q)) ↔ (enT z n f - f = (strM q).length ∧ ∀ i, i < (strM q).length → z (f + i) = (((strM q).toList.getD i 'a').toNat : Int)) := by
    unfold lnM
    rw [pkn_eq _ _ (by omega) (by omega)]
    constructor
    · intro e
      obtain ⟨x1, x2⟩ := pkF_inj _ _ hd he e
      refine ⟨x1, fun i hi => ?_⟩
      have y1 := x2 i (by omega)
      have y2 := hal i (by omega)
      have hh : 97 ≤ z (f + i) ∧ z (f + i) ≤ 122 := of_decide_eq_true y2
      have y3 := s3 i hi
      have y4 : leT z f i = ((strM q).toList.getD i 'a').toNat - 96 := y1
      unfold leT at y4
      omega
    · intro ⟨x1, x2⟩
      rw [x1]
      have : ∀ m, m ≤ (strM q).length → pkF (leT z f) m = pkF (fun i => ((strM q).toList.getD i 'a').toNat - 96) m := by
        intro m
        induction m with
        | zero => intro _; rfl
        | succ m ih =>
          intro hm
          have y1 := x2 m (by omega)
          have y3 := s3 m (by omega)
          show 32 * pkF (leT z f) m + leT z f m = 32 * pkF (fun i => ((strM q).toList.getD i 'a').toNat - 96) m + (((strM q).toList.getD m 'a').toNat - 96)
          rw [ih (by omega)]
          congr 1
          unfold leT
          rw [y1]
          omega
      exact this _ (Nat.le_refl _)
  refine ⟨fun w => no (fun y => w (key.mpr y.2)), fun w => ?_⟩
  unfold wdS at k
  rw [decide_eq_true ⟨c, key.mp w⟩] at k
  exact k
/-- the token's sign, as the model asks for it -/
theorem sign_M {z : Nat → Int} {n f : Nat} {c : Int} (hz : ZM z h) (hn4 : n ≤ 400) (ht : TM z n f h) (hc : c = 59 ∨ c = 45 ∨ c = 40 ∨ c = 41) : (gI h 83 15 = 3 ∧ gI h 83 19 = iI c) ↔ sgT z n f c = true := by
  obtain ⟨t13, t14, t15, t16, t17, t18, t19, t20⟩ := ht
  have kc := kdT_c (z := z) (n := n) (f := f)
  unfold sgT
  rw [decide_eq_true_eq]
  constructor
  · intro ⟨w1, w2⟩
    have hk : kdT z n f = 3 := by
      rw [t15, n_3] at w1
      have sob : soT z n f ≤ 4 := by
        unfold soT
        split
        · split <;> omega
        · have := kc.2.2.2.2; omega
      rw [eq_n (by omega) (by omega)] at w1
      unfold soT at w1
      split at w1
      · assumption
      · exact w1
    refine ⟨hk, ?_⟩
    have hfn := (kc.2.2.2.1.mp hk).1
    have zb := hz f (by omega)
    rw [t19 hk, iI_eq ⟨by omega, by omega⟩ ⟨by omega, by omega⟩] at w2
    omega
  · intro ⟨w1, w2⟩
    have hfn := (kc.2.2.2.1.mp w1).1
    refine ⟨?_, ?_⟩
    · rw [t15]
      unfold soT
      rw [if_pos w1, if_pos (by omega)]
      exact n_3.symm
    · rw [t19 w1, w2]
      congr 1
      omega
end WORDM
