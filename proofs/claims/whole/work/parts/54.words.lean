/-! THE WORDS, AND READING ON -/
/-- the strings of the code are what they are -/
def kOK (κ : Nat → Nat) : Prop := ∀ i, i < 75 → mstr κ (κ (10 + i)) = some (mtx.getD i [])
def W_yard : List Nat := [121, 97, 114, 100]
def W_wall : List Nat := [119, 97, 108, 108]
def W_door : List Nat := [100, 111, 111, 114]
def W_thatch : List Nat := [116, 104, 97, 116, 99, 104]
def W_lane : List Nat := [108, 97, 110, 101]
def W_barrel : List Nat := [98, 97, 114, 114, 101, 108]
def W_at : List Nat := [97, 116]
def W_pace : List Nat := [112, 97, 99, 101]
def W_tar : List Nat := [116, 97, 114]
def W_weight : List Nat := [119, 101, 105, 103, 104, 116]
def W_way : List Nat := [119, 97, 121]
def W_bearer : List Nat := [98, 101, 97, 114, 101, 114]
def W_wind : List Nat := [119, 105, 110, 100]
def W_push : List Nat := [112, 117, 115, 104]
def W_shut : List Nat := [115, 104, 117, 116]
def W_open : List Nat := [111, 112, 101, 110]
def W_back : List Nat := [98, 97, 99, 107]
def W_if : List Nat := [105, 102]
def W_not : List Nat := [110, 111, 116]
def W_people : List Nat := [112, 101, 111, 112, 108, 101]
def W_holds : List Nat := [104, 111, 108, 100, 115]
def W_inside : List Nat := [105, 110, 115, 105, 100, 101]
def W_second : List Nat := [115, 101, 99, 111, 110, 100]
def W_and : List Nat := [97, 110, 100]
def W_or : List Nat := [111, 114]
section WORDS
variable {κ ad : Nat → Nat} {N h s d : Nat} {S : St} {X : Int → Int} {n p g b : Nat} {τ : Bool × Nat}
theorem F_78_1 (hE : okE ad N) (hK : kOK κ) (hX : TX S X n) (hb : τ.2 ≤ n) : Fr κ (d + 2) 78 [.ref (ad 1), .ref (κ (10 + 1))] (mk κ ad N h s (tS X n S τ)) = (some (.inl none, (mk κ ad N h s (tS X n S (wW X n W_yard τ)))) : Option (mO × mS)) := F_78 hE hX (hK 1 (by omega)) (by decide) (by decide) hb
theorem F_78_2 (hE : okE ad N) (hK : kOK κ) (hX : TX S X n) (hb : τ.2 ≤ n) : Fr κ (d + 2) 78 [.ref (ad 1), .ref (κ (10 + 2))] (mk κ ad N h s (tS X n S τ)) = (some (.inl none, (mk κ ad N h s (tS X n S (wW X n W_wall τ)))) : Option (mO × mS)) := F_78 hE hX (hK 2 (by omega)) (by decide) (by decide) hb
theorem F_78_3 (hE : okE ad N) (hK : kOK κ) (hX : TX S X n) (hb : τ.2 ≤ n) : Fr κ (d + 2) 78 [.ref (ad 1), .ref (κ (10 + 3))] (mk κ ad N h s (tS X n S τ)) = (some (.inl none, (mk κ ad N h s (tS X n S (wW X n W_door τ)))) : Option (mO × mS)) := F_78 hE hX (hK 3 (by omega)) (by decide) (by decide) hb
theorem F_78_6 (hE : okE ad N) (hK : kOK κ) (hX : TX S X n) (hb : τ.2 ≤ n) : Fr κ (d + 2) 78 [.ref (ad 1), .ref (κ (10 + 6))] (mk κ ad N h s (tS X n S τ)) = (some (.inl none, (mk κ ad N h s (tS X n S (wW X n W_lane τ)))) : Option (mO × mS)) := F_78 hE hX (hK 6 (by omega)) (by decide) (by decide) hb
theorem F_78_8 (hE : okE ad N) (hK : kOK κ) (hX : TX S X n) (hb : τ.2 ≤ n) : Fr κ (d + 2) 78 [.ref (ad 1), .ref (κ (10 + 8))] (mk κ ad N h s (tS X n S τ)) = (some (.inl none, (mk κ ad N h s (tS X n S (wW X n W_barrel τ)))) : Option (mO × mS)) := F_78 hE hX (hK 8 (by omega)) (by decide) (by decide) hb
theorem F_78_9 (hE : okE ad N) (hK : kOK κ) (hX : TX S X n) (hb : τ.2 ≤ n) : Fr κ (d + 2) 78 [.ref (ad 1), .ref (κ (10 + 9))] (mk κ ad N h s (tS X n S τ)) = (some (.inl none, (mk κ ad N h s (tS X n S (wW X n W_at τ)))) : Option (mO × mS)) := F_78 hE hX (hK 9 (by omega)) (by decide) (by decide) hb
theorem F_78_10 (hE : okE ad N) (hK : kOK κ) (hX : TX S X n) (hb : τ.2 ≤ n) : Fr κ (d + 2) 78 [.ref (ad 1), .ref (κ (10 + 10))] (mk κ ad N h s (tS X n S τ)) = (some (.inl none, (mk κ ad N h s (tS X n S (wW X n W_pace τ)))) : Option (mO × mS)) := F_78 hE hX (hK 10 (by omega)) (by decide) (by decide) hb
theorem F_78_11 (hE : okE ad N) (hK : kOK κ) (hX : TX S X n) (hb : τ.2 ≤ n) : Fr κ (d + 2) 78 [.ref (ad 1), .ref (κ (10 + 11))] (mk κ ad N h s (tS X n S τ)) = (some (.inl none, (mk κ ad N h s (tS X n S (wW X n W_tar τ)))) : Option (mO × mS)) := F_78 hE hX (hK 11 (by omega)) (by decide) (by decide) hb
theorem F_78_12 (hE : okE ad N) (hK : kOK κ) (hX : TX S X n) (hb : τ.2 ≤ n) : Fr κ (d + 2) 78 [.ref (ad 1), .ref (κ (10 + 12))] (mk κ ad N h s (tS X n S τ)) = (some (.inl none, (mk κ ad N h s (tS X n S (wW X n W_weight τ)))) : Option (mO × mS)) := F_78 hE hX (hK 12 (by omega)) (by decide) (by decide) hb
theorem F_78_13 (hE : okE ad N) (hK : kOK κ) (hX : TX S X n) (hb : τ.2 ≤ n) : Fr κ (d + 2) 78 [.ref (ad 1), .ref (κ (10 + 13))] (mk κ ad N h s (tS X n S τ)) = (some (.inl none, (mk κ ad N h s (tS X n S (wW X n W_way τ)))) : Option (mO × mS)) := F_78 hE hX (hK 13 (by omega)) (by decide) (by decide) hb
theorem F_78_15 (hE : okE ad N) (hK : kOK κ) (hX : TX S X n) (hb : τ.2 ≤ n) : Fr κ (d + 2) 78 [.ref (ad 1), .ref (κ (10 + 15))] (mk κ ad N h s (tS X n S τ)) = (some (.inl none, (mk κ ad N h s (tS X n S (wW X n W_bearer τ)))) : Option (mO × mS)) := F_78 hE hX (hK 15 (by omega)) (by decide) (by decide) hb
theorem F_78_22 (hE : okE ad N) (hK : kOK κ) (hX : TX S X n) (hb : τ.2 ≤ n) : Fr κ (d + 2) 78 [.ref (ad 1), .ref (κ (10 + 22))] (mk κ ad N h s (tS X n S τ)) = (some (.inl none, (mk κ ad N h s (tS X n S (wW X n W_back τ)))) : Option (mO × mS)) := F_78 hE hX (hK 22 (by omega)) (by decide) (by decide) hb
theorem F_76_4 (hE : okE ad N) (hK : kOK κ) (hX : TX S X n) (hb : τ.2 ≤ n) : Fr κ (d + 1) 76 [.ref (ad 1), .ref (κ (10 + 4))] (mk κ ad N h s (tS X n S τ)) = (some (.inl (some (.int (iI (b2i (tW X n W_thatch τ))))), (mk κ ad N h s (tS X n S (kW X n W_thatch τ)))) : Option (mO × mS)) := F_76 hE hX (hK 4 (by omega)) (by decide) (by decide) hb
theorem F_76_16 (hE : okE ad N) (hK : kOK κ) (hX : TX S X n) (hb : τ.2 ≤ n) : Fr κ (d + 1) 76 [.ref (ad 1), .ref (κ (10 + 16))] (mk κ ad N h s (tS X n S τ)) = (some (.inl (some (.int (iI (b2i (tW X n W_wind τ))))), (mk κ ad N h s (tS X n S (kW X n W_wind τ)))) : Option (mO × mS)) := F_76 hE hX (hK 16 (by omega)) (by decide) (by decide) hb
theorem F_76_17 (hE : okE ad N) (hK : kOK κ) (hX : TX S X n) (hb : τ.2 ≤ n) : Fr κ (d + 1) 76 [.ref (ad 1), .ref (κ (10 + 17))] (mk κ ad N h s (tS X n S τ)) = (some (.inl (some (.int (iI (b2i (tW X n W_push τ))))), (mk κ ad N h s (tS X n S (kW X n W_push τ)))) : Option (mO × mS)) := F_76 hE hX (hK 17 (by omega)) (by decide) (by decide) hb
theorem F_76_18 (hE : okE ad N) (hK : kOK κ) (hX : TX S X n) (hb : τ.2 ≤ n) : Fr κ (d + 1) 76 [.ref (ad 1), .ref (κ (10 + 18))] (mk κ ad N h s (tS X n S τ)) = (some (.inl (some (.int (iI (b2i (tW X n W_shut τ))))), (mk κ ad N h s (tS X n S (kW X n W_shut τ)))) : Option (mO × mS)) := F_76 hE hX (hK 18 (by omega)) (by decide) (by decide) hb
theorem F_76_19 (hE : okE ad N) (hK : kOK κ) (hX : TX S X n) (hb : τ.2 ≤ n) : Fr κ (d + 1) 76 [.ref (ad 1), .ref (κ (10 + 19))] (mk κ ad N h s (tS X n S τ)) = (some (.inl (some (.int (iI (b2i (tW X n W_open τ))))), (mk κ ad N h s (tS X n S (kW X n W_open τ)))) : Option (mO × mS)) := F_76 hE hX (hK 19 (by omega)) (by decide) (by decide) hb
theorem F_76_23 (hE : okE ad N) (hK : kOK κ) (hX : TX S X n) (hb : τ.2 ≤ n) : Fr κ (d + 1) 76 [.ref (ad 1), .ref (κ (10 + 23))] (mk κ ad N h s (tS X n S τ)) = (some (.inl (some (.int (iI (b2i (tW X n W_if τ))))), (mk κ ad N h s (tS X n S (kW X n W_if τ)))) : Option (mO × mS)) := F_76 hE hX (hK 23 (by omega)) (by decide) (by decide) hb
theorem F_76_24 (hE : okE ad N) (hK : kOK κ) (hX : TX S X n) (hb : τ.2 ≤ n) : Fr κ (d + 1) 76 [.ref (ad 1), .ref (κ (10 + 24))] (mk κ ad N h s (tS X n S τ)) = (some (.inl (some (.int (iI (b2i (tW X n W_not τ))))), (mk κ ad N h s (tS X n S (kW X n W_not τ)))) : Option (mO × mS)) := F_76 hE hX (hK 24 (by omega)) (by decide) (by decide) hb
theorem F_76_25 (hE : okE ad N) (hK : kOK κ) (hX : TX S X n) (hb : τ.2 ≤ n) : Fr κ (d + 1) 76 [.ref (ad 1), .ref (κ (10 + 25))] (mk κ ad N h s (tS X n S τ)) = (some (.inl (some (.int (iI (b2i (tW X n W_thatch τ))))), (mk κ ad N h s (tS X n S (kW X n W_thatch τ)))) : Option (mO × mS)) := F_76 hE hX (hK 25 (by omega)) (by decide) (by decide) hb
theorem F_76_26 (hE : okE ad N) (hK : kOK κ) (hX : TX S X n) (hb : τ.2 ≤ n) : Fr κ (d + 1) 76 [.ref (ad 1), .ref (κ (10 + 26))] (mk κ ad N h s (tS X n S τ)) = (some (.inl (some (.int (iI (b2i (tW X n W_at τ))))), (mk κ ad N h s (tS X n S (kW X n W_at τ)))) : Option (mO × mS)) := F_76 hE hX (hK 26 (by omega)) (by decide) (by decide) hb
theorem F_76_34 (hE : okE ad N) (hK : kOK κ) (hX : TX S X n) (hb : τ.2 ≤ n) : Fr κ (d + 1) 76 [.ref (ad 1), .ref (κ (10 + 34))] (mk κ ad N h s (tS X n S τ)) = (some (.inl (some (.int (iI (b2i (tW X n W_and τ))))), (mk κ ad N h s (tS X n S (kW X n W_and τ)))) : Option (mO × mS)) := F_76 hE hX (hK 34 (by omega)) (by decide) (by decide) hb
theorem F_76_35 (hE : okE ad N) (hK : kOK κ) (hX : TX S X n) (hb : τ.2 ≤ n) : Fr κ (d + 1) 76 [.ref (ad 1), .ref (κ (10 + 35))] (mk κ ad N h s (tS X n S τ)) = (some (.inl (some (.int (iI (b2i (tW X n W_or τ))))), (mk κ ad N h s (tS X n S (kW X n W_or τ)))) : Option (mO × mS)) := F_76 hE hX (hK 35 (by omega)) (by decide) (by decide) hb
theorem F_74_0 (hE : okE ad N) (hK : kOK κ) (hX : TX S X n) (hb : τ.2 ≤ n) : Fr κ d 74 [.ref (ad 1), .ref (κ (10 + 0))] (mk κ ad N h s (tS X n S τ)) = (some (.inl (some (.int (iI (b2i (tW X n W_yard τ))))), (mk κ ad N h s (tS X n S τ))) : Option (mO × mS)) := F_74 hE hX (hK 0 (by omega)) (by decide) (by decide) hb
theorem F_74_5 (hE : okE ad N) (hK : kOK κ) (hX : TX S X n) (hb : τ.2 ≤ n) : Fr κ d 74 [.ref (ad 1), .ref (κ (10 + 5))] (mk κ ad N h s (tS X n S τ)) = (some (.inl (some (.int (iI (b2i (tW X n W_lane τ))))), (mk κ ad N h s (tS X n S τ))) : Option (mO × mS)) := F_74 hE hX (hK 5 (by omega)) (by decide) (by decide) hb
theorem F_74_7 (hE : okE ad N) (hK : kOK κ) (hX : TX S X n) (hb : τ.2 ≤ n) : Fr κ d 74 [.ref (ad 1), .ref (κ (10 + 7))] (mk κ ad N h s (tS X n S τ)) = (some (.inl (some (.int (iI (b2i (tW X n W_barrel τ))))), (mk κ ad N h s (tS X n S τ))) : Option (mO × mS)) := F_74 hE hX (hK 7 (by omega)) (by decide) (by decide) hb
theorem F_74_14 (hE : okE ad N) (hK : kOK κ) (hX : TX S X n) (hb : τ.2 ≤ n) : Fr κ d 74 [.ref (ad 1), .ref (κ (10 + 14))] (mk κ ad N h s (tS X n S τ)) = (some (.inl (some (.int (iI (b2i (tW X n W_bearer τ))))), (mk κ ad N h s (tS X n S τ))) : Option (mO × mS)) := F_74 hE hX (hK 14 (by omega)) (by decide) (by decide) hb
theorem F_74_24 (hE : okE ad N) (hK : kOK κ) (hX : TX S X n) (hb : τ.2 ≤ n) : Fr κ d 74 [.ref (ad 1), .ref (κ (10 + 24))] (mk κ ad N h s (tS X n S τ)) = (some (.inl (some (.int (iI (b2i (tW X n W_not τ))))), (mk κ ad N h s (tS X n S τ))) : Option (mO × mS)) := F_74 hE hX (hK 24 (by omega)) (by decide) (by decide) hb
theorem F_74_27 (hE : okE ad N) (hK : kOK κ) (hX : TX S X n) (hb : τ.2 ≤ n) : Fr κ d 74 [.ref (ad 1), .ref (κ (10 + 27))] (mk κ ad N h s (tS X n S τ)) = (some (.inl (some (.int (iI (b2i (tW X n W_people τ))))), (mk κ ad N h s (tS X n S τ))) : Option (mO × mS)) := F_74 hE hX (hK 27 (by omega)) (by decide) (by decide) hb
theorem F_74_28 (hE : okE ad N) (hK : kOK κ) (hX : TX S X n) (hb : τ.2 ≤ n) : Fr κ d 74 [.ref (ad 1), .ref (κ (10 + 28))] (mk κ ad N h s (tS X n S τ)) = (some (.inl (some (.int (iI (b2i (tW X n W_holds τ))))), (mk κ ad N h s (tS X n S τ))) : Option (mO × mS)) := F_74 hE hX (hK 28 (by omega)) (by decide) (by decide) hb
theorem F_74_29 (hE : okE ad N) (hK : kOK κ) (hX : TX S X n) (hb : τ.2 ≤ n) : Fr κ d 74 [.ref (ad 1), .ref (κ (10 + 29))] (mk κ ad N h s (tS X n S τ)) = (some (.inl (some (.int (iI (b2i (tW X n W_inside τ))))), (mk κ ad N h s (tS X n S τ))) : Option (mO × mS)) := F_74 hE hX (hK 29 (by omega)) (by decide) (by decide) hb
theorem F_74_30 (hE : okE ad N) (hK : kOK κ) (hX : TX S X n) (hb : τ.2 ≤ n) : Fr κ d 74 [.ref (ad 1), .ref (κ (10 + 30))] (mk κ ad N h s (tS X n S τ)) = (some (.inl (some (.int (iI (b2i (tW X n W_yard τ))))), (mk κ ad N h s (tS X n S τ))) : Option (mO × mS)) := F_74 hE hX (hK 30 (by omega)) (by decide) (by decide) hb
theorem F_74_31 (hE : okE ad N) (hK : kOK κ) (hX : TX S X n) (hb : τ.2 ≤ n) : Fr κ d 74 [.ref (ad 1), .ref (κ (10 + 31))] (mk κ ad N h s (tS X n S τ)) = (some (.inl (some (.int (iI (b2i (tW X n W_weight τ))))), (mk κ ad N h s (tS X n S τ))) : Option (mO × mS)) := F_74 hE hX (hK 31 (by omega)) (by decide) (by decide) hb
theorem F_74_32 (hE : okE ad N) (hK : kOK κ) (hX : TX S X n) (hb : τ.2 ≤ n) : Fr κ d 74 [.ref (ad 1), .ref (κ (10 + 32))] (mk κ ad N h s (tS X n S τ)) = (some (.inl (some (.int (iI (b2i (tW X n W_wind τ))))), (mk κ ad N h s (tS X n S τ))) : Option (mO × mS)) := F_74 hE hX (hK 32 (by omega)) (by decide) (by decide) hb
theorem F_74_33 (hE : okE ad N) (hK : kOK κ) (hX : TX S X n) (hb : τ.2 ≤ n) : Fr κ d 74 [.ref (ad 1), .ref (κ (10 + 33))] (mk κ ad N h s (tS X n S τ)) = (some (.inl (some (.int (iI (b2i (tW X n W_second τ))))), (mk κ ad N h s (tS X n S τ))) : Option (mO × mS)) := F_74 hE hX (hK 33 (by omega)) (by decide) (by decide) hb
theorem R_176_50 (hE : okE ad N) (hK : kOK κ) (hX : TR S X n) (hb : b ≤ n) : Fr κ d 176 [.ref (ad 327), .ref (κ (10 + 50))] (mk κ ad N h s (rP S (le X n b) b)) = (some (.inl (some (.int (iI (b2i (isW X n b W_yard))))), (mk κ ad N h s (rP S (le X n b) b))) : Option (mO × mS)) := R_176 hE hX hb (hK 50 (by omega)) (by decide) (by decide) (by decide)
theorem R_176_54 (hE : okE ad N) (hK : kOK κ) (hX : TR S X n) (hb : b ≤ n) : Fr κ d 176 [.ref (ad 327), .ref (κ (10 + 54))] (mk κ ad N h s (rP S (le X n b) b)) = (some (.inl (some (.int (iI (b2i (isW X n b W_lane))))), (mk κ ad N h s (rP S (le X n b) b))) : Option (mO × mS)) := R_176 hE hX hb (hK 54 (by omega)) (by decide) (by decide) (by decide)
theorem R_176_55 (hE : okE ad N) (hK : kOK κ) (hX : TR S X n) (hb : b ≤ n) : Fr κ d 176 [.ref (ad 327), .ref (κ (10 + 55))] (mk κ ad N h s (rP S (le X n b) b)) = (some (.inl (some (.int (iI (b2i (isW X n b W_barrel))))), (mk κ ad N h s (rP S (le X n b) b))) : Option (mO × mS)) := R_176 hE hX hb (hK 55 (by omega)) (by decide) (by decide) (by decide)
theorem R_176_59 (hE : okE ad N) (hK : kOK κ) (hX : TR S X n) (hb : b ≤ n) : Fr κ d 176 [.ref (ad 327), .ref (κ (10 + 59))] (mk κ ad N h s (rP S (le X n b) b)) = (some (.inl (some (.int (iI (b2i (isW X n b W_weight))))), (mk κ ad N h s (rP S (le X n b) b))) : Option (mO × mS)) := R_176 hE hX hb (hK 59 (by omega)) (by decide) (by decide) (by decide)
theorem R_176_60 (hE : okE ad N) (hK : kOK κ) (hX : TR S X n) (hb : b ≤ n) : Fr κ d 176 [.ref (ad 327), .ref (κ (10 + 60))] (mk κ ad N h s (rP S (le X n b) b)) = (some (.inl (some (.int (iI (b2i (isW X n b W_way))))), (mk κ ad N h s (rP S (le X n b) b))) : Option (mO × mS)) := R_176 hE hX hb (hK 60 (by omega)) (by decide) (by decide) (by decide)
theorem R_176_61 (hE : okE ad N) (hK : kOK κ) (hX : TR S X n) (hb : b ≤ n) : Fr κ d 176 [.ref (ad 327), .ref (κ (10 + 61))] (mk κ ad N h s (rP S (le X n b) b)) = (some (.inl (some (.int (iI (b2i (isW X n b W_bearer))))), (mk κ ad N h s (rP S (le X n b) b))) : Option (mO × mS)) := R_176 hE hX hb (hK 61 (by omega)) (by decide) (by decide) (by decide)
theorem R_176_62 (hE : okE ad N) (hK : kOK κ) (hX : TR S X n) (hb : b ≤ n) : Fr κ d 176 [.ref (ad 327), .ref (κ (10 + 62))] (mk κ ad N h s (rP S (le X n b) b)) = (some (.inl (some (.int (iI (b2i (isW X n b W_wind))))), (mk κ ad N h s (rP S (le X n b) b))) : Option (mO × mS)) := R_176 hE hX hb (hK 62 (by omega)) (by decide) (by decide) (by decide)
theorem R_176_63 (hE : okE ad N) (hK : kOK κ) (hX : TR S X n) (hb : b ≤ n) : Fr κ d 176 [.ref (ad 327), .ref (κ (10 + 63))] (mk κ ad N h s (rP S (le X n b) b)) = (some (.inl (some (.int (iI (b2i (isW X n b W_push))))), (mk κ ad N h s (rP S (le X n b) b))) : Option (mO × mS)) := R_176 hE hX hb (hK 63 (by omega)) (by decide) (by decide) (by decide)
theorem R_176_64 (hE : okE ad N) (hK : kOK κ) (hX : TR S X n) (hb : b ≤ n) : Fr κ d 176 [.ref (ad 327), .ref (κ (10 + 64))] (mk κ ad N h s (rP S (le X n b) b)) = (some (.inl (some (.int (iI (b2i (isW X n b W_open))))), (mk κ ad N h s (rP S (le X n b) b))) : Option (mO × mS)) := R_176 hE hX hb (hK 64 (by omega)) (by decide) (by decide) (by decide)
theorem R_176_65 (hE : okE ad N) (hK : kOK κ) (hX : TR S X n) (hb : b ≤ n) : Fr κ d 176 [.ref (ad 327), .ref (κ (10 + 65))] (mk κ ad N h s (rP S (le X n b) b)) = (some (.inl (some (.int (iI (b2i (isW X n b W_shut))))), (mk κ ad N h s (rP S (le X n b) b))) : Option (mO × mS)) := R_176 hE hX hb (hK 65 (by omega)) (by decide) (by decide) (by decide)
theorem R_176_66 (hE : okE ad N) (hK : kOK κ) (hX : TR S X n) (hb : b ≤ n) : Fr κ d 176 [.ref (ad 327), .ref (κ (10 + 66))] (mk κ ad N h s (rP S (le X n b) b)) = (some (.inl (some (.int (iI (b2i (isW X n b W_back))))), (mk κ ad N h s (rP S (le X n b) b))) : Option (mO × mS)) := R_176 hE hX hb (hK 66 (by omega)) (by decide) (by decide) (by decide)
theorem R_176_69 (hE : okE ad N) (hK : kOK κ) (hX : TR S X n) (hb : b ≤ n) : Fr κ d 176 [.ref (ad 327), .ref (κ (10 + 69))] (mk κ ad N h s (rP S (le X n b) b)) = (some (.inl (some (.int (iI (b2i (isW X n b W_people))))), (mk κ ad N h s (rP S (le X n b) b))) : Option (mO × mS)) := R_176 hE hX hb (hK 69 (by omega)) (by decide) (by decide) (by decide)
theorem R_176_70 (hE : okE ad N) (hK : kOK κ) (hX : TR S X n) (hb : b ≤ n) : Fr κ d 176 [.ref (ad 327), .ref (κ (10 + 70))] (mk κ ad N h s (rP S (le X n b) b)) = (some (.inl (some (.int (iI (b2i (isW X n b W_holds))))), (mk κ ad N h s (rP S (le X n b) b))) : Option (mO × mS)) := R_176 hE hX hb (hK 70 (by omega)) (by decide) (by decide) (by decide)
theorem R_176_71 (hE : okE ad N) (hK : kOK κ) (hX : TR S X n) (hb : b ≤ n) : Fr κ d 176 [.ref (ad 327), .ref (κ (10 + 71))] (mk κ ad N h s (rP S (le X n b) b)) = (some (.inl (some (.int (iI (b2i (isW X n b W_inside))))), (mk κ ad N h s (rP S (le X n b) b))) : Option (mO × mS)) := R_176 hE hX hb (hK 71 (by omega)) (by decide) (by decide) (by decide)
theorem R_176_72 (hE : okE ad N) (hK : kOK κ) (hX : TR S X n) (hb : b ≤ n) : Fr κ d 176 [.ref (ad 327), .ref (κ (10 + 72))] (mk κ ad N h s (rP S (le X n b) b)) = (some (.inl (some (.int (iI (b2i (isW X n b W_second))))), (mk κ ad N h s (rP S (le X n b) b))) : Option (mO × mS)) := R_176 hE hX hb (hK 72 (by omega)) (by decide) (by decide) (by decide)
theorem R_177_53 (hE : okE ad N) (hK : kOK κ) (hX : TR S X n) (hp : p ≤ n) : Fr κ (d + 3) 177 [.ref (ad 327), .ref (κ (10 + 53))] (mk κ ad N h s (rP S p g)) = (some (.inl (some (.int (iI (b2i (isW X n (bl X n p) W_thatch))))), (mk κ ad N h s (rP S (if isW X n (bl X n p) W_thatch = true then te X n (bl X n p) else bl X n p) (bl X n p)))) : Option (mO × mS)) := R_177 hE hX hp (hK 53 (by omega)) (by decide) (by decide) (by decide)
theorem R_177_56 (hE : okE ad N) (hK : kOK κ) (hX : TR S X n) (hp : p ≤ n) : Fr κ (d + 3) 177 [.ref (ad 327), .ref (κ (10 + 56))] (mk κ ad N h s (rP S p g)) = (some (.inl (some (.int (iI (b2i (isW X n (bl X n p) W_at))))), (mk κ ad N h s (rP S (if isW X n (bl X n p) W_at = true then te X n (bl X n p) else bl X n p) (bl X n p)))) : Option (mO × mS)) := R_177 hE hX hp (hK 56 (by omega)) (by decide) (by decide) (by decide)
theorem R_177_67 (hE : okE ad N) (hK : kOK κ) (hX : TR S X n) (hp : p ≤ n) : Fr κ (d + 3) 177 [.ref (ad 327), .ref (κ (10 + 67))] (mk κ ad N h s (rP S p g)) = (some (.inl (some (.int (iI (b2i (isW X n (bl X n p) W_if))))), (mk κ ad N h s (rP S (if isW X n (bl X n p) W_if = true then te X n (bl X n p) else bl X n p) (bl X n p)))) : Option (mO × mS)) := R_177 hE hX hp (hK 67 (by omega)) (by decide) (by decide) (by decide)
theorem R_177_68 (hE : okE ad N) (hK : kOK κ) (hX : TR S X n) (hp : p ≤ n) : Fr κ (d + 3) 177 [.ref (ad 327), .ref (κ (10 + 68))] (mk κ ad N h s (rP S p g)) = (some (.inl (some (.int (iI (b2i (isW X n (bl X n p) W_not))))), (mk κ ad N h s (rP S (if isW X n (bl X n p) W_not = true then te X n (bl X n p) else bl X n p) (bl X n p)))) : Option (mO × mS)) := R_177 hE hX hp (hK 68 (by omega)) (by decide) (by decide) (by decide)
theorem R_177_73 (hE : okE ad N) (hK : kOK κ) (hX : TR S X n) (hp : p ≤ n) : Fr κ (d + 3) 177 [.ref (ad 327), .ref (κ (10 + 73))] (mk κ ad N h s (rP S p g)) = (some (.inl (some (.int (iI (b2i (isW X n (bl X n p) W_and))))), (mk κ ad N h s (rP S (if isW X n (bl X n p) W_and = true then te X n (bl X n p) else bl X n p) (bl X n p)))) : Option (mO × mS)) := R_177 hE hX hp (hK 73 (by omega)) (by decide) (by decide) (by decide)
theorem R_177_74 (hE : okE ad N) (hK : kOK κ) (hX : TR S X n) (hp : p ≤ n) : Fr κ (d + 3) 177 [.ref (ad 327), .ref (κ (10 + 74))] (mk κ ad N h s (rP S p g)) = (some (.inl (some (.int (iI (b2i (isW X n (bl X n p) W_or))))), (mk κ ad N h s (rP S (if isW X n (bl X n p) W_or = true then te X n (bl X n p) else bl X n p) (bl X n p)))) : Option (mO × mS)) := R_177 hE hX hp (hK 74 (by omega)) (by decide) (by decide) (by decide)
theorem R_180_51 {lo hi : Int} (hE : okE ad N) (hK : kOK κ) (hX : TR S X n) (hp : p ≤ n) (hlo : 0 ≤ lo) (h1 : rg lo) (h2 : rg hi) : Fr κ (d + 3) 180 [.ref (ad 327), .ref (κ (10 + 51)), .int (iI lo), .int (iI hi)] (mk κ ad N h s (rP S p g)) = if isW X n (bl X n p) W_wall = true then (some (.inl (some (.int (iI (rN X n lo hi (nx X n (bl X n p)))))), (mk κ ad N h s (rP S (ld X n (nx X n (bl X n p))) (nx X n (bl X n p))))) : Option (mO × mS)) else (some (.inl (some (.int (iI (-1)))), (mk κ ad N h s (rP S (le X n (bl X n p)) (bl X n p)))) : Option (mO × mS)) := R_180 hE hX hp (hK 51 (by omega)) (by decide) (by decide) (by decide) hlo h1 h2
theorem R_180_52 {lo hi : Int} (hE : okE ad N) (hK : kOK κ) (hX : TR S X n) (hp : p ≤ n) (hlo : 0 ≤ lo) (h1 : rg lo) (h2 : rg hi) : Fr κ (d + 3) 180 [.ref (ad 327), .ref (κ (10 + 52)), .int (iI lo), .int (iI hi)] (mk κ ad N h s (rP S p g)) = if isW X n (bl X n p) W_door = true then (some (.inl (some (.int (iI (rN X n lo hi (nx X n (bl X n p)))))), (mk κ ad N h s (rP S (ld X n (nx X n (bl X n p))) (nx X n (bl X n p))))) : Option (mO × mS)) else (some (.inl (some (.int (iI (-1)))), (mk κ ad N h s (rP S (le X n (bl X n p)) (bl X n p)))) : Option (mO × mS)) := R_180 hE hX hp (hK 52 (by omega)) (by decide) (by decide) (by decide) hlo h1 h2
theorem R_180_56 {lo hi : Int} (hE : okE ad N) (hK : kOK κ) (hX : TR S X n) (hp : p ≤ n) (hlo : 0 ≤ lo) (h1 : rg lo) (h2 : rg hi) : Fr κ (d + 3) 180 [.ref (ad 327), .ref (κ (10 + 56)), .int (iI lo), .int (iI hi)] (mk κ ad N h s (rP S p g)) = if isW X n (bl X n p) W_at = true then (some (.inl (some (.int (iI (rN X n lo hi (nx X n (bl X n p)))))), (mk κ ad N h s (rP S (ld X n (nx X n (bl X n p))) (nx X n (bl X n p))))) : Option (mO × mS)) else (some (.inl (some (.int (iI (-1)))), (mk κ ad N h s (rP S (le X n (bl X n p)) (bl X n p)))) : Option (mO × mS)) := R_180 hE hX hp (hK 56 (by omega)) (by decide) (by decide) (by decide) hlo h1 h2
theorem R_180_57 {lo hi : Int} (hE : okE ad N) (hK : kOK κ) (hX : TR S X n) (hp : p ≤ n) (hlo : 0 ≤ lo) (h1 : rg lo) (h2 : rg hi) : Fr κ (d + 3) 180 [.ref (ad 327), .ref (κ (10 + 57)), .int (iI lo), .int (iI hi)] (mk κ ad N h s (rP S p g)) = if isW X n (bl X n p) W_pace = true then (some (.inl (some (.int (iI (rN X n lo hi (nx X n (bl X n p)))))), (mk κ ad N h s (rP S (ld X n (nx X n (bl X n p))) (nx X n (bl X n p))))) : Option (mO × mS)) else (some (.inl (some (.int (iI (-1)))), (mk κ ad N h s (rP S (le X n (bl X n p)) (bl X n p)))) : Option (mO × mS)) := R_180 hE hX hp (hK 57 (by omega)) (by decide) (by decide) (by decide) hlo h1 h2
theorem R_180_58 {lo hi : Int} (hE : okE ad N) (hK : kOK κ) (hX : TR S X n) (hp : p ≤ n) (hlo : 0 ≤ lo) (h1 : rg lo) (h2 : rg hi) : Fr κ (d + 3) 180 [.ref (ad 327), .ref (κ (10 + 58)), .int (iI lo), .int (iI hi)] (mk κ ad N h s (rP S p g)) = if isW X n (bl X n p) W_tar = true then (some (.inl (some (.int (iI (rN X n lo hi (nx X n (bl X n p)))))), (mk κ ad N h s (rP S (ld X n (nx X n (bl X n p))) (nx X n (bl X n p))))) : Option (mO × mS)) else (some (.inl (some (.int (iI (-1)))), (mk κ ad N h s (rP S (le X n (bl X n p)) (bl X n p)))) : Option (mO × mS)) := R_180 hE hX hp (hK 58 (by omega)) (by decide) (by decide) (by decide) hlo h1 h2
theorem R_180_59 {lo hi : Int} (hE : okE ad N) (hK : kOK κ) (hX : TR S X n) (hp : p ≤ n) (hlo : 0 ≤ lo) (h1 : rg lo) (h2 : rg hi) : Fr κ (d + 3) 180 [.ref (ad 327), .ref (κ (10 + 59)), .int (iI lo), .int (iI hi)] (mk κ ad N h s (rP S p g)) = if isW X n (bl X n p) W_weight = true then (some (.inl (some (.int (iI (rN X n lo hi (nx X n (bl X n p)))))), (mk κ ad N h s (rP S (ld X n (nx X n (bl X n p))) (nx X n (bl X n p))))) : Option (mO × mS)) else (some (.inl (some (.int (iI (-1)))), (mk κ ad N h s (rP S (le X n (bl X n p)) (bl X n p)))) : Option (mO × mS)) := R_180 hE hX hp (hK 59 (by omega)) (by decide) (by decide) (by decide) hlo h1 h2
end WORDS
section STEPS
variable {X : Int → Int} {n b : Nat} {τ : Bool × Nat} {w : List Nat} {c lo hi : Int}
theorem adv_le (h : τ.2 ≤ n) : (adv X n τ).2 ≤ n := by
  unfold adv
  split
  · exact (nx_le h).2.1
  · exact h
theorem rfs_le (h : τ.2 ≤ n) : (rfs τ).2 ≤ n := h
theorem wW_le (h : τ.2 ≤ n) : (wW X n w τ).2 ≤ n := by
  unfold wW
  split
  · exact adv_le h
  · exact h
theorem kW_le (h : τ.2 ≤ n) : (kW X n w τ).2 ≤ n := by
  unfold kW
  split
  · exact adv_le h
  · exact h
theorem wG_le (h : τ.2 ≤ n) : (wG X n c τ).2 ≤ n := by
  unfold wG
  split
  · exact adv_le h
  · exact h
theorem kG_le (h : τ.2 ≤ n) : (kG X n c τ).2 ≤ n := by
  unfold kG
  split
  · exact adv_le h
  · exact h
theorem wN_le (h : τ.2 ≤ n) : (wN X n lo hi τ).2 ≤ n := by
  unfold wN
  split
  · exact h
  · exact adv_le h
/-- behind a wrong thing all stays -/
theorem adv_f : adv X n (false, b) = (false, b) := rfl
theorem rfs_f : rfs (false, b) = (false, b) := rfl
theorem wW_f : wW X n w (false, b) = (false, b) := rfl
theorem kW_f : kW X n w (false, b) = (false, b) := rfl
theorem wG_f : wG X n c (false, b) = (false, b) := rfl
theorem kG_f : kG X n c (false, b) = (false, b) := rfl
theorem tW_f : tW X n w (false, b) = false := rfl
theorem tG_f : tG X n c (false, b) = false := rfl
theorem tN_f : tN X n (false, b) = -1 := rfl
theorem wN_f (h : 0 ≤ lo) : wN X n lo hi (false, b) = (false, b) := by
  unfold wN
  rw [tN_f, if_pos (Or.inl (by omega))]
  rfl
theorem adv_t : adv X n (true, b) = (true, nx X n b) := rfl
theorem wW_t (h : isW X n b w = true) : wW X n w (true, b) = (true, nx X n b) := by
  unfold wW tW
  rw [h]
  rfl
theorem wW_n (h : isW X n b w = false) : wW X n w (true, b) = (false, b) := by
  unfold wW tW
  rw [h]
  rfl
theorem kW_t (h : isW X n b w = true) : kW X n w (true, b) = (true, nx X n b) := by
  unfold kW tW
  rw [h]
  rfl
theorem kW_n (h : isW X n b w = false) : kW X n w (true, b) = (true, b) := by
  unfold kW tW
  rw [h]
  rfl
theorem kG_t (h : isSg X n b c = true) : kG X n c (true, b) = (true, nx X n b) := by
  unfold kG tG
  rw [h]
  rfl
theorem kG_n (h : isSg X n b c = false) : kG X n c (true, b) = (true, b) := by
  unfold kG tG
  rw [h]
  rfl
theorem wG_t (h : isSg X n b c = true) : wG X n c (true, b) = (true, nx X n b) := by
  unfold wG tG
  rw [h]
  rfl
theorem wG_n (h : isSg X n b c = false) : wG X n c (true, b) = (false, b) := by
  unfold wG tG
  rw [h]
  rfl
theorem tW_t : tW X n w (true, b) = isW X n b w := rfl
theorem tG_t : tG X n c (true, b) = isSg X n b c := rfl
theorem tN_t : tN X n (true, b) = nm X n b := rfl
/-- a number of the right size, or none -/
theorem rN_cases (h : 0 ≤ lo) : (rN X n lo hi b = -1 ∧ wN X n lo hi (true, b) = (false, b) ∧ (nm X n b < lo ∨ hi < nm X n b)) ∨ (0 ≤ rN X n lo hi b ∧ lo ≤ rN X n lo hi b ∧ rN X n lo hi b ≤ hi ∧ rN X n lo hi b ≤ 999 ∧ rN X n lo hi b = nm X n b ∧ vN X n lo hi (true, b) = rN X n lo hi b ∧ wN X n lo hi (true, b) = (true, nx X n b) ∧ ld X n b = te X n b) := by
  have hr := nm_rng (X := X) (n := n) (b := b)
  unfold rN wN vN
  rw [tN_t]
  by_cases c : nm X n b < lo ∨ hi < nm X n b
  · left
    rw [if_pos c, if_pos c]
    exact ⟨rfl, rfl, c⟩
  · right
    rw [if_neg c, if_neg c, if_neg c]
    refine ⟨by omega, by omega, by omega, by omega, rfl, rfl, rfl, ?_⟩
    unfold ld
    rw [if_pos]
    unfold nm at c
    by_cases c9 : kk X n b = 2 ∧ te X n b - b ≤ 3
    · exact c9.1
    · rw [if_neg c9] at c; omega
end STEPS
