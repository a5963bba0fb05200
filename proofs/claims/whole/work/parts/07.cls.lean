set_option maxRecDepth 4000 in
theorem ok0 : clOK 0 RJx4a65c TJx4a65c 3 tyJx4a65c := ⟨rfl, (show ∀ w ∈ [u_lay RJx4a65c TJx4a65c 0, u_lay RJx4a65c TJx4a65c 1, u_lay RJx4a65c TJx4a65c 2], w ∈ uw from List.forall_mem_cons.mpr ⟨u72, List.forall_mem_cons.mpr ⟨u68, List.forall_mem_cons.mpr ⟨u70, (fun _ h => absurd h List.not_mem_nil)⟩⟩⟩), tyJx4a65c_ok, nmJx4a65c, u50, u6⟩
set_option maxRecDepth 4000 in
theorem ok1 : clOK 1 RX0 TX0 1 tyX0 := ⟨rfl, (show ∀ w ∈ [u_lay RX0 TX0 0], w ∈ uw from List.forall_mem_cons.mpr ⟨u38, (fun _ h => absurd h List.not_mem_nil)⟩), tyX0_ok, nmX0, u32, u2⟩
set_option maxRecDepth 4000 in
theorem ok2 : clOK 2 RX1 TX1 4 tyX1 := ⟨rfl, (show ∀ w ∈ [u_lay RX1 TX1 0, u_lay RX1 TX1 1, u_lay RX1 TX1 2, u_lay RX1 TX1 3], w ∈ uw from List.forall_mem_cons.mpr ⟨u704, List.forall_mem_cons.mpr ⟨u706, List.forall_mem_cons.mpr ⟨u708, List.forall_mem_cons.mpr ⟨u710, (fun _ h => absurd h List.not_mem_nil)⟩⟩⟩⟩), tyX1_ok, nmX1, u691, u22⟩
set_option maxRecDepth 4000 in
theorem ok3 : clOK 3 RX2 TX2 2 tyX2 := ⟨rfl, (show ∀ w ∈ [u_lay RX2 TX2 0, u_lay RX2 TX2 1], w ∈ uw from List.forall_mem_cons.mpr ⟨u132, List.forall_mem_cons.mpr ⟨u134, (fun _ h => absurd h List.not_mem_nil)⟩⟩), tyX2_ok, nmX2, u125, u8⟩
set_option maxRecDepth 4000 in
theorem ok4 : clOK 4 RX3 TX3 6 tyX3 := ⟨rfl, (show ∀ w ∈ [u_lay RX3 TX3 0, u_lay RX3 TX3 1, u_lay RX3 TX3 2, u_lay RX3 TX3 3, u_lay RX3 TX3 4, u_lay RX3 TX3 5], w ∈ uw from List.forall_mem_cons.mpr ⟨u665, List.forall_mem_cons.mpr ⟨u667, List.forall_mem_cons.mpr ⟨u669, List.forall_mem_cons.mpr ⟨u671, List.forall_mem_cons.mpr ⟨u673, List.forall_mem_cons.mpr ⟨u675, (fun _ h => absurd h List.not_mem_nil)⟩⟩⟩⟩⟩⟩), tyX3_ok, nmX3, u648, u21⟩
set_option maxRecDepth 4000 in
theorem ok5 : clOK 5 RX4 TX4 8 tyX4 := ⟨rfl, (show ∀ w ∈ [u_lay RX4 TX4 0, u_lay RX4 TX4 1, u_lay RX4 TX4 2, u_lay RX4 TX4 3, u_lay RX4 TX4 4, u_lay RX4 TX4 5, u_lay RX4 TX4 6, u_lay RX4 TX4 7], w ∈ uw from List.forall_mem_cons.mpr ⟨u98, List.forall_mem_cons.mpr ⟨u100, List.forall_mem_cons.mpr ⟨u102, List.forall_mem_cons.mpr ⟨u104, List.forall_mem_cons.mpr ⟨u106, List.forall_mem_cons.mpr ⟨u108, List.forall_mem_cons.mpr ⟨u110, List.forall_mem_cons.mpr ⟨u112, (fun _ h => absurd h List.not_mem_nil)⟩⟩⟩⟩⟩⟩⟩⟩), tyX4_ok, nmX4, u76, u7⟩
set_option maxRecDepth 4000 in
theorem ok6 : clOK 6 RX5 TX5 2 tyX5 := ⟨rfl, (show ∀ w ∈ [u_lay RX5 TX5 0, u_lay RX5 TX5 1], w ∈ uw from List.forall_mem_cons.mpr ⟨u117, List.forall_mem_cons.mpr ⟨u119, (fun _ h => absurd h List.not_mem_nil)⟩⟩), tyX5_ok, nmX5, u44, u3⟩
set_option maxRecDepth 4000 in
theorem ok7 : clOK 7 RX6 TX6 8 tyX6 := ⟨rfl, (show ∀ w ∈ [u_lay RX6 TX6 0, u_lay RX6 TX6 1, u_lay RX6 TX6 2, u_lay RX6 TX6 3, u_lay RX6 TX6 4, u_lay RX6 TX6 5, u_lay RX6 TX6 6, u_lay RX6 TX6 7], w ∈ uw from List.forall_mem_cons.mpr ⟨u466, List.forall_mem_cons.mpr ⟨u468, List.forall_mem_cons.mpr ⟨u470, List.forall_mem_cons.mpr ⟨u472, List.forall_mem_cons.mpr ⟨u474, List.forall_mem_cons.mpr ⟨u476, List.forall_mem_cons.mpr ⟨u478, List.forall_mem_cons.mpr ⟨u480, (fun _ h => absurd h List.not_mem_nil)⟩⟩⟩⟩⟩⟩⟩⟩), tyX6_ok, nmX6, u442, u18⟩
set_option maxRecDepth 4000 in
theorem ok8 : clOK 8 RX7 TX7 2 tyX7 := ⟨rfl, (show ∀ w ∈ [u_lay RX7 TX7 0, u_lay RX7 TX7 1], w ∈ uw from List.forall_mem_cons.mpr ⟨u540, List.forall_mem_cons.mpr ⟨u542, (fun _ h => absurd h List.not_mem_nil)⟩⟩), tyX7_ok, nmX7, u531, u20⟩
set_option maxRecDepth 4000 in
theorem ok9 : clOK 9 RX8 TX8 2 tyX8 := ⟨rfl, (show ∀ w ∈ [u_lay RX8 TX8 0, u_lay RX8 TX8 1], w ∈ uw from List.forall_mem_cons.mpr ⟨u350, List.forall_mem_cons.mpr ⟨u352, (fun _ h => absurd h List.not_mem_nil)⟩⟩), tyX8_ok, nmX8, u341, u17⟩
set_option maxRecDepth 4000 in
theorem ok10 : clOK 10 RX9 TX9 9 tyX9 := ⟨rfl, (show ∀ w ∈ [u_lay RX9 TX9 0, u_lay RX9 TX9 1, u_lay RX9 TX9 2, u_lay RX9 TX9 3, u_lay RX9 TX9 4, u_lay RX9 TX9 5, u_lay RX9 TX9 6, u_lay RX9 TX9 7, u_lay RX9 TX9 8], w ∈ uw from List.forall_mem_cons.mpr ⟨u316, List.forall_mem_cons.mpr ⟨u318, List.forall_mem_cons.mpr ⟨u320, List.forall_mem_cons.mpr ⟨u322, List.forall_mem_cons.mpr ⟨u324, List.forall_mem_cons.mpr ⟨u326, List.forall_mem_cons.mpr ⟨u328, List.forall_mem_cons.mpr ⟨u330, List.forall_mem_cons.mpr ⟨u332, (fun _ h => absurd h List.not_mem_nil)⟩⟩⟩⟩⟩⟩⟩⟩⟩), tyX9_ok, nmX9, u290, u14⟩
set_option maxRecDepth 4000 in
theorem ok11 : clOK 11 RX10 TX10 12 tyX10 := ⟨rfl, (show ∀ w ∈ [u_lay RX10 TX10 0, u_lay RX10 TX10 1, u_lay RX10 TX10 2, u_lay RX10 TX10 3, u_lay RX10 TX10 4, u_lay RX10 TX10 5, u_lay RX10 TX10 6, u_lay RX10 TX10 7, u_lay RX10 TX10 8, u_lay RX10 TX10 9, u_lay RX10 TX10 10, u_lay RX10 TX10 11], w ∈ uw from List.forall_mem_cons.mpr ⟨u149, List.forall_mem_cons.mpr ⟨u151, List.forall_mem_cons.mpr ⟨u153, List.forall_mem_cons.mpr ⟨u155, List.forall_mem_cons.mpr ⟨u157, List.forall_mem_cons.mpr ⟨u159, List.forall_mem_cons.mpr ⟨u161, List.forall_mem_cons.mpr ⟨u163, List.forall_mem_cons.mpr ⟨u165, List.forall_mem_cons.mpr ⟨u167, List.forall_mem_cons.mpr ⟨u169, List.forall_mem_cons.mpr ⟨u171, (fun _ h => absurd h List.not_mem_nil)⟩⟩⟩⟩⟩⟩⟩⟩⟩⟩⟩⟩), tyX10_ok, nmX10, u24, u1⟩
set_option maxRecDepth 4000 in
theorem ok12 : clOK 12 RX11 TX11 36 tyX11 := ⟨rfl, (show ∀ w ∈ [u_lay RX11 TX11 0, u_lay RX11 TX11 1, u_lay RX11 TX11 2, u_lay RX11 TX11 3, u_lay RX11 TX11 4, u_lay RX11 TX11 5, u_lay RX11 TX11 6, u_lay RX11 TX11 7, u_lay RX11 TX11 8, u_lay RX11 TX11 9, u_lay RX11 TX11 10, u_lay RX11 TX11 11, u_lay RX11 TX11 12, u_lay RX11 TX11 13, u_lay RX11 TX11 14, u_lay RX11 TX11 15, u_lay RX11 TX11 16, u_lay RX11 TX11 17, u_lay RX11 TX11 18, u_lay RX11 TX11 19, u_lay RX11 TX11 20, u_lay RX11 TX11 21, u_lay RX11 TX11 22, u_lay RX11 TX11 23, u_lay RX11 TX11 24, u_lay RX11 TX11 25, u_lay RX11 TX11 26, u_lay RX11 TX11 27, u_lay RX11 TX11 28, u_lay RX11 TX11 29, u_lay RX11 TX11 30, u_lay RX11 TX11 31, u_lay RX11 TX11 32, u_lay RX11 TX11 33, u_lay RX11 TX11 34, u_lay RX11 TX11 35], w ∈ uw from List.forall_mem_cons.mpr ⟨u793, List.forall_mem_cons.mpr ⟨u795, List.forall_mem_cons.mpr ⟨u797, List.forall_mem_cons.mpr ⟨u799, List.forall_mem_cons.mpr ⟨u801, List.forall_mem_cons.mpr ⟨u803, List.forall_mem_cons.mpr ⟨u805, List.forall_mem_cons.mpr ⟨u807, List.forall_mem_cons.mpr ⟨u809, List.forall_mem_cons.mpr ⟨u811, List.forall_mem_cons.mpr ⟨u813, List.forall_mem_cons.mpr ⟨u815, List.forall_mem_cons.mpr ⟨u817, List.forall_mem_cons.mpr ⟨u819, List.forall_mem_cons.mpr ⟨u821, List.forall_mem_cons.mpr ⟨u823, List.forall_mem_cons.mpr ⟨u825, List.forall_mem_cons.mpr ⟨u827, List.forall_mem_cons.mpr ⟨u829, List.forall_mem_cons.mpr ⟨u831, List.forall_mem_cons.mpr ⟨u833, List.forall_mem_cons.mpr ⟨u835, List.forall_mem_cons.mpr ⟨u837, List.forall_mem_cons.mpr ⟨u839, List.forall_mem_cons.mpr ⟨u841, List.forall_mem_cons.mpr ⟨u843, List.forall_mem_cons.mpr ⟨u845, List.forall_mem_cons.mpr ⟨u847, List.forall_mem_cons.mpr ⟨u849, List.forall_mem_cons.mpr ⟨u851, List.forall_mem_cons.mpr ⟨u853, List.forall_mem_cons.mpr ⟨u855, List.forall_mem_cons.mpr ⟨u857, List.forall_mem_cons.mpr ⟨u859, List.forall_mem_cons.mpr ⟨u861, List.forall_mem_cons.mpr ⟨u863, (fun _ h => absurd h List.not_mem_nil)⟩⟩⟩⟩⟩⟩⟩⟩⟩⟩⟩⟩⟩⟩⟩⟩⟩⟩⟩⟩⟩⟩⟩⟩⟩⟩⟩⟩⟩⟩⟩⟩⟩⟩⟩⟩), tyX11_ok, nmX11, u750, u9⟩
set_option maxRecDepth 4000 in
theorem kX0_init : calI yX0_init cX0_init 1 0 := ⟨⟨u35, u2, by decide +kernel, by decide +kernel, by decide +kernel⟩, rfl, u34⟩
set_option maxRecDepth 4000 in
theorem kX0_isFeast : calV yX0_isFeast cX0_isFeast 3 (some .boolean) 1 := ⟨⟨u362, u2, by decide +kernel, by decide +kernel, by decide +kernel⟩, u360, u361⟩
set_option maxRecDepth 4000 in
theorem kX0_addFeast : calV yX0_addFeast cX0_addFeast 3 none 1 := ⟨⟨u366, u2, by decide +kernel, by decide +kernel, by decide +kernel⟩, u364, u365⟩
set_option maxRecDepth 4000 in
theorem kX0_workdaysBetween : calV yX0_workdaysBetween cX0_workdaysBetween 3 (some .int) 2 := ⟨⟨u502, u2, by decide +kernel, by decide +kernel, by decide +kernel⟩, u500, u501⟩
set_option maxRecDepth 4000 in
theorem kX0_feastsAheadOf : calV yX0_feastsAheadOf cX0_feastsAheadOf 5 (some .int) 1 := ⟨⟨u506, u2, by decide +kernel, by decide +kernel, by decide +kernel⟩, u505, us8⟩
set_option maxRecDepth 4000 in
theorem kX1_init : calI yX1_init cX1_init 5 4 := ⟨⟨u694, u22, by decide +kernel, by decide +kernel, by decide +kernel⟩, rfl, u693⟩
set_option maxRecDepth 4000 in
theorem kX2_init : calI yX2_init cX2_init 1 0 := ⟨⟨u128, u8, by decide +kernel, by decide +kernel, by decide +kernel⟩, rfl, u127⟩
set_option maxRecDepth 4000 in
theorem kX2_clear : calV yX2_clear cX2_clear 1 none 0 := ⟨⟨u589, u8, by decide +kernel, by decide +kernel, by decide +kernel⟩, u587, u588⟩
set_option maxRecDepth 4000 in
theorem kX2_take : calV yX2_take cX2_take 4 none 1 := ⟨⟨u600, u8, by decide +kernel, by decide +kernel, by decide +kernel⟩, u598, u599⟩
set_option maxRecDepth 4000 in
theorem kX2_barTo : calV yX2_barTo cX2_barTo 7 (some .int) 1 := ⟨⟨u615, u8, by decide +kernel, by decide +kernel, by decide +kernel⟩, u613, u614⟩
set_option maxRecDepth 4000 in
theorem kX2_isTaken : calV yX2_isTaken cX2_isTaken 4 (some .boolean) 2 := ⟨⟨u619, u8, by decide +kernel, by decide +kernel, by decide +kernel⟩, u618, us18⟩
set_option maxRecDepth 4000 in
theorem kX2_hallAt : calV yX2_hallAt cX2_hallAt 4 (some .int) 2 := ⟨⟨u623, u8, by decide +kernel, by decide +kernel, by decide +kernel⟩, u622, us19⟩
set_option maxRecDepth 4000 in
theorem kX2_placeOf : calV yX2_placeOf cX2_placeOf 4 (some .int) 2 := ⟨⟨u606, u8, by decide +kernel, by decide +kernel, by decide +kernel⟩, u605, us16⟩
set_option maxRecDepth 4000 in
theorem kX3_init : calI yX3_init cX3_init 3 2 := ⟨⟨u651, u21, by decide +kernel, by decide +kernel, by decide +kernel⟩, rfl, u650⟩
set_option maxRecDepth 4000 in
theorem kX3_written : calV yX3_written cX3_written 2 (some .int) 1 := ⟨⟨u720, u21, by decide +kernel, by decide +kernel, by decide +kernel⟩, u718, u719⟩
set_option maxRecDepth 4000 in
theorem kX4_init : calI yX4_init cX4_init 5 4 := ⟨⟨u79, u7, by decide +kernel, by decide +kernel, by decide +kernel⟩, rfl, u78⟩
set_option maxRecDepth 4000 in
theorem kX4_canBe : calS yX4_canBe cX4_canBe 2 (some .boolean) 2 := ⟨⟨u183, u7, by decide +kernel, by decide +kernel, by decide +kernel⟩, u182⟩
set_option maxRecDepth 4000 in
theorem kX4_wantsPaper : calV yX4_wantsPaper cX4_wantsPaper 2 (some .boolean) 1 := ⟨⟨u421, u7, by decide +kernel, by decide +kernel, by decide +kernel⟩, u419, u420⟩
set_option maxRecDepth 4000 in
theorem kX5_init : calI yX5_init cX5_init 1 0 := ⟨⟨u47, u3, by decide +kernel, by decide +kernel, by decide +kernel⟩, rfl, u46⟩
set_option maxRecDepth 4000 in
theorem kX5_isFull : calV yX5_isFull cX5_isFull 1 (some .boolean) 0 := ⟨⟨u187, u3, by decide +kernel, by decide +kernel, by decide +kernel⟩, u185, u186⟩
set_option maxRecDepth 4000 in
theorem kX5_tell : calV yX5_tell cX5_tell 2 none 1 := ⟨⟨u197, u3, by decide +kernel, by decide +kernel, by decide +kernel⟩, u195, u196⟩
set_option maxRecDepth 4000 in
theorem kX5_inForce : calV yX5_inForce cX5_inForce 6 (some (.object "WeddingRegister$Law")) 2 := ⟨⟨u410, u3, by decide +kernel, by decide +kernel, by decide +kernel⟩, u408, u409⟩
set_option maxRecDepth 4000 in
theorem kX6_init : calI yX6_init cX6_init 5 4 := ⟨⟨u445, u18, by decide +kernel, by decide +kernel, by decide +kernel⟩, rfl, u444⟩
set_option maxRecDepth 4000 in
theorem kX6_isOf : calV yX6_isOf cX6_isOf 3 (some .boolean) 2 := ⟨⟨u441, u18, by decide +kernel, by decide +kernel, by decide +kernel⟩, u439, u440⟩
set_option maxRecDepth 4000 in
theorem kX6_isBooked : calV yX6_isBooked cX6_isBooked 1 (some .boolean) 0 := ⟨⟨u596, u18, by decide +kernel, by decide +kernel, by decide +kernel⟩, u594, u595⟩
set_option maxRecDepth 4000 in
theorem kX6_setBooking : calV yX6_setBooking cX6_setBooking 3 none 2 := ⟨⟨u494, u18, by decide +kernel, by decide +kernel, by decide +kernel⟩, u492, u493⟩
set_option maxRecDepth 4000 in
theorem kX7_init : calI yX7_init cX7_init 2 1 := ⟨⟨u534, u20, by decide +kernel, by decide +kernel, by decide +kernel⟩, rfl, u533⟩
set_option maxRecDepth 4000 in
theorem kX8_init : calI yX8_init cX8_init 3 2 := ⟨⟨u344, u17, by decide +kernel, by decide +kernel, by decide +kernel⟩, rfl, u343⟩
set_option maxRecDepth 4000 in
theorem kX9_init : calI yX9_init cX9_init 6 5 := ⟨⟨u293, u14, by decide +kernel, by decide +kernel, by decide +kernel⟩, rfl, u292⟩
set_option maxRecDepth 4000 in
theorem kX9_canBe : calS yX9_canBe cX9_canBe 1 (some .boolean) 1 := ⟨⟨u264, u14, by decide +kernel, by decide +kernel, by decide +kernel⟩, u263⟩
set_option maxRecDepth 4000 in
theorem kX9_isChildOf : calV yX9_isChildOf cX9_isChildOf 2 (some .boolean) 1 := ⟨⟨u382, u14, by decide +kernel, by decide +kernel, by decide +kernel⟩, u380, u381⟩
set_option maxRecDepth 4000 in
theorem kX9_sharesParentWith : calV yX9_sharesParentWith cX9_sharesParentWith 2 (some .boolean) 1 := ⟨⟨u386, u14, by decide +kernel, by decide +kernel, by decide +kernel⟩, u384, u385⟩
set_option maxRecDepth 4000 in
theorem kX9_hasPaper : calV yX9_hasPaper cX9_hasPaper 6 (some .boolean) 3 := ⟨⟨u425, u14, by decide +kernel, by decide +kernel, by decide +kernel⟩, u423, u424⟩
set_option maxRecDepth 4000 in
theorem kX10_init : calI yX10_init cX10_init 1 0 := ⟨⟨u27, u1, by decide +kernel, by decide +kernel, by decide +kernel⟩, rfl, u26⟩
set_option maxRecDepth 4000 in
theorem kX10_law : calV yX10_law cX10_law 5 (some .boolean) 4 := ⟨⟨u177, u1, by decide +kernel, by decide +kernel, by decide +kernel⟩, u175, u176⟩
set_option maxRecDepth 4000 in
theorem kX10_person : calV yX10_person cX10_person 6 (some .int) 4 := ⟨⟨u261, u1, by decide +kernel, by decide +kernel, by decide +kernel⟩, u259, u260⟩
set_option maxRecDepth 4000 in
theorem kX10_paper : calV yX10_paper cX10_paper 5 (some .boolean) 3 := ⟨⟨u339, u1, by decide +kernel, by decide +kernel, by decide +kernel⟩, u337, u338⟩
set_option maxRecDepth 4000 in
theorem kX10_feast : calV yX10_feast cX10_feast 2 (some .boolean) 1 := ⟨⟨u358, u1, by decide +kernel, by decide +kernel, by decide +kernel⟩, u356, u357⟩
set_option maxRecDepth 4000 in
theorem kX10_go : calV yX10_go cX10_go 2 (some .int) 1 := ⟨⟨u370, u1, by decide +kernel, by decide +kernel, by decide +kernel⟩, u368, u369⟩
set_option maxRecDepth 4000 in
theorem kX10_kin : calV yX10_kin cX10_kin 5 (some .int) 2 := ⟨⟨u375, u1, by decide +kernel, by decide +kernel, by decide +kernel⟩, u373, u374⟩
set_option maxRecDepth 4000 in
theorem kX10_against : calV yX10_against cX10_against 6 (some .int) 3 := ⟨⟨u402, u1, by decide +kernel, by decide +kernel, by decide +kernel⟩, u400, u401⟩
set_option maxRecDepth 4000 in
theorem kX10_post : calV yX10_post cX10_post 6 (some .int) 2 := ⟨⟨u432, u1, by decide +kernel, by decide +kernel, by decide +kernel⟩, u430, u431⟩
set_option maxRecDepth 4000 in
theorem kX10_withdraw : calV yX10_withdraw cX10_withdraw 3 (some .boolean) 1 := ⟨⟨u486, u1, by decide +kernel, by decide +kernel, by decide +kernel⟩, u484, u485⟩
set_option maxRecDepth 4000 in
theorem kX10_hung : calV yX10_hung cX10_hung 4 (some .int) 2 := ⟨⟨u498, u1, by decide +kernel, by decide +kernel, by decide +kernel⟩, u496, u497⟩
set_option maxRecDepth 4000 in
theorem kX10_ripe : calV yX10_ripe cX10_ripe 3 (some .int) 1 := ⟨⟨u516, u1, by decide +kernel, by decide +kernel, by decide +kernel⟩, u514, u515⟩
set_option maxRecDepth 4000 in
theorem kX10_object : calV yX10_object cX10_object 5 (some .int) 1 := ⟨⟨u529, u1, by decide +kernel, by decide +kernel, by decide +kernel⟩, u527, u528⟩
set_option maxRecDepth 4000 in
theorem kX10_judge : calV yX10_judge cX10_judge 4 (some .boolean) 2 := ⟨⟨u548, u1, by decide +kernel, by decide +kernel, by decide +kernel⟩, u546, u547⟩
set_option maxRecDepth 4000 in
theorem kX10_registrar : calV yX10_registrar cX10_registrar 3 (some .int) 1 := ⟨⟨u552, u1, by decide +kernel, by decide +kernel, by decide +kernel⟩, u550, u551⟩
set_option maxRecDepth 4000 in
theorem kX10_book : calV yX10_book cX10_book 6 (some .int) 3 := ⟨⟨u556, u1, by decide +kernel, by decide +kernel, by decide +kernel⟩, u554, u555⟩
set_option maxRecDepth 4000 in
theorem kX10_order : calV yX10_order cX10_order 4 (some .int) 1 := ⟨⟨u631, u1, by decide +kernel, by decide +kernel, by decide +kernel⟩, u629, u630⟩
set_option maxRecDepth 4000 in
theorem kX10_wed : calV yX10_wed cX10_wed 4 (some .int) 1 := ⟨⟨u646, u1, by decide +kernel, by decide +kernel, by decide +kernel⟩, u644, u645⟩
set_option maxRecDepth 4000 in
theorem kX10_part : calV yX10_part cX10_part 4 (some .boolean) 1 := ⟨⟨u681, u1, by decide +kernel, by decide +kernel, by decide +kernel⟩, u679, u680⟩
set_option maxRecDepth 4000 in
theorem kX10_correct : calV yX10_correct cX10_correct 5 (some .boolean) 3 := ⟨⟨u685, u1, by decide +kernel, by decide +kernel, by decide +kernel⟩, u683, u684⟩
set_option maxRecDepth 4000 in
theorem kX10_entry : calV yX10_entry cX10_entry 7 (some .int) 3 := ⟨⟨u716, u1, by decide +kernel, by decide +kernel, by decide +kernel⟩, u714, u715⟩
set_option maxRecDepth 4000 in
theorem kX10_name : calV yX10_name cX10_name 5 (some .int) 3 := ⟨⟨u724, u1, by decide +kernel, by decide +kernel, by decide +kernel⟩, u722, u723⟩
set_option maxRecDepth 4000 in
theorem kX10_quarrel : calV yX10_quarrel cX10_quarrel 3 (some .boolean) 1 := ⟨⟨u732, u1, by decide +kernel, by decide +kernel, by decide +kernel⟩, u730, u731⟩
set_option maxRecDepth 4000 in
theorem kX10_told : calV yX10_told cX10_told 4 (some .int) 2 := ⟨⟨u736, u1, by decide +kernel, by decide +kernel, by decide +kernel⟩, u734, u735⟩
set_option maxRecDepth 4000 in
theorem kX10_married : calV yX10_married cX10_married 4 (some .int) 1 := ⟨⟨u740, u1, by decide +kernel, by decide +kernel, by decide +kernel⟩, u738, u739⟩
set_option maxRecDepth 4000 in
theorem kX10_count : calV yX10_count cX10_count 2 (some .int) 1 := ⟨⟨u744, u1, by decide +kernel, by decide +kernel, by decide +kernel⟩, u742, u743⟩
set_option maxRecDepth 4000 in
theorem kX10_isDay : calS yX10_isDay cX10_isDay 1 (some .boolean) 1 := ⟨⟨u180, u1, by decide +kernel, by decide +kernel, by decide +kernel⟩, u179⟩
set_option maxRecDepth 4000 in
theorem kX10_isDayToCome : calV yX10_isDayToCome cX10_isDayToCome 2 (some .boolean) 1 := ⟨⟨u560, u1, by decide +kernel, by decide +kernel, by decide +kernel⟩, u559, us11⟩
set_option maxRecDepth 4000 in
theorem kX10_personAt : calV yX10_personAt cX10_personAt 2 (some (.object "WeddingRegister$Person")) 1 := ⟨⟨u274, u1, by decide +kernel, by decide +kernel, by decide +kernel⟩, u273, us4⟩
set_option maxRecDepth 4000 in
theorem kX10_noticeAt : calV yX10_noticeAt cX10_noticeAt 2 (some (.object "WeddingRegister$Notice")) 1 := ⟨⟨u490, u1, by decide +kernel, by decide +kernel, by decide +kernel⟩, u489, us7⟩
set_option maxRecDepth 4000 in
theorem kX10_entryAt : calV yX10_entryAt cX10_entryAt 2 (some (.object "WeddingRegister$Entry")) 1 := ⟨⟨u689, u1, by decide +kernel, by decide +kernel, by decide +kernel⟩, u688, us23⟩
set_option maxRecDepth 4000 in
theorem kX10_canBeParents : calV yX10_canBeParents cX10_canBeParents 5 (some .boolean) 2 := ⟨⟨u270, u1, by decide +kernel, by decide +kernel, by decide +kernel⟩, u269, us3⟩
set_option maxRecDepth 4000 in
theorem kX10_openBookings : calV yX10_openBookings cX10_openBookings 4 (some .int) 0 := ⟨⟨u748, u1, by decide +kernel, by decide +kernel, by decide +kernel⟩, u747, us25⟩
set_option maxRecDepth 4000 in
theorem kX10_hasOpenNotice : calV yX10_hasOpenNotice cX10_hasOpenNotice 5 (some .boolean) 2 := ⟨⟨u436, u1, by decide +kernel, by decide +kernel, by decide +kernel⟩, u435, us6⟩
set_option maxRecDepth 4000 in
theorem kX10_kinOf : calS yX10_kinOf cX10_kinOf 2 (some .int) 2 := ⟨⟨u378, u1, by decide +kernel, by decide +kernel, by decide +kernel⟩, u377⟩
set_option maxRecDepth 4000 in
theorem kX10_isNearByParent : calS yX10_isNearByParent cX10_isNearByParent 2 (some .boolean) 2 := ⟨⟨u389, u1, by decide +kernel, by decide +kernel, by decide +kernel⟩, u388⟩
set_option maxRecDepth 4000 in
theorem kX10_isNearAs : calS yX10_isNearAs cX10_isNearAs 2 (some .boolean) 2 := ⟨⟨u392, u1, by decide +kernel, by decide +kernel, by decide +kernel⟩, u391⟩
set_option maxRecDepth 4000 in
theorem kX10_isCousinBy : calS yX10_isCousinBy cX10_isCousinBy 2 (some .boolean) 2 := ⟨⟨u395, u1, by decide +kernel, by decide +kernel, by decide +kernel⟩, u394⟩
set_option maxRecDepth 4000 in
theorem kX10_areSiblings : calS yX10_areSiblings cX10_areSiblings 2 (some .boolean) 2 := ⟨⟨u398, u1, by decide +kernel, by decide +kernel, by decide +kernel⟩, u397⟩
set_option maxRecDepth 4000 in
theorem kX10_barToCouple : calV yX10_barToCouple cX10_barToCouple 7 (some .int) 3 := ⟨⟨u406, u1, by decide +kernel, by decide +kernel, by decide +kernel⟩, u405, us5⟩
set_option maxRecDepth 4000 in
theorem kX10_isTooYoung : calS yX10_isTooYoung cX10_isTooYoung 3 (some .boolean) 3 := ⟨⟨u414, u1, by decide +kernel, by decide +kernel, by decide +kernel⟩, u413⟩
set_option maxRecDepth 4000 in
theorem kX10_lacksPaper : calS yX10_lacksPaper cX10_lacksPaper 4 (some .boolean) 3 := ⟨⟨u417, u1, by decide +kernel, by decide +kernel, by decide +kernel⟩, u416⟩
set_option maxRecDepth 4000 in
theorem kX10_hangingAsked : calV yX10_hangingAsked cX10_hangingAsked 3 (some .int) 2 := ⟨⟨u524, u1, by decide +kernel, by decide +kernel, by decide +kernel⟩, u523, us10⟩
set_option maxRecDepth 4000 in
theorem kX10_isRipeOn : calV yX10_isRipeOn cX10_isRipeOn 3 (some .boolean) 2 := ⟨⟨u581, u1, by decide +kernel, by decide +kernel, by decide +kernel⟩, u580, us14⟩
set_option maxRecDepth 4000 in
theorem kX10_firstRipeDay : calV yX10_firstRipeDay cX10_firstRipeDay 4 (some .int) 1 := ⟨⟨u520, u1, by decide +kernel, by decide +kernel, by decide +kernel⟩, u519, us9⟩
set_option maxRecDepth 4000 in
theorem kX10_isSlot : calV yX10_isSlot cX10_isSlot 3 (some .boolean) 1 := ⟨⟨u564, u1, by decide +kernel, by decide +kernel, by decide +kernel⟩, u563, us12⟩
set_option maxRecDepth 4000 in
theorem kX10_slotOf : calS yX10_slotOf cX10_slotOf 3 (some .int) 3 := ⟨⟨u642, u1, by decide +kernel, by decide +kernel, by decide +kernel⟩, u641⟩
set_option maxRecDepth 4000 in
theorem kX10_hourOf : calS yX10_hourOf cX10_hourOf 1 (some .int) 1 := ⟨⟨u567, u1, by decide +kernel, by decide +kernel, by decide +kernel⟩, u566⟩
set_option maxRecDepth 4000 in
theorem kX10_hallOf : calS yX10_hallOf cX10_hallOf 1 (some .int) 1 := ⟨⟨u570, u1, by decide +kernel, by decide +kernel, by decide +kernel⟩, u569⟩
set_option maxRecDepth 4000 in
theorem kX10_registrarOf : calS yX10_registrarOf cX10_registrarOf 1 (some .int) 1 := ⟨⟨u573, u1, by decide +kernel, by decide +kernel, by decide +kernel⟩, u572⟩
set_option maxRecDepth 4000 in
theorem kX10_fillPlan : calV yX10_fillPlan cX10_fillPlan 5 none 2 := ⟨⟨u585, u1, by decide +kernel, by decide +kernel, by decide +kernel⟩, u584, us15⟩
set_option maxRecDepth 4000 in
theorem kX10_barToDay : calV yX10_barToDay cX10_barToDay 3 (some .int) 2 := ⟨⟨u577, u1, by decide +kernel, by decide +kernel, by decide +kernel⟩, u576, us13⟩
set_option maxRecDepth 4000 in
theorem kX10_barToSlot : calV yX10_barToSlot cX10_barToSlot 4 (some .int) 2 := ⟨⟨u611, u1, by decide +kernel, by decide +kernel, by decide +kernel⟩, u610, us17⟩
set_option maxRecDepth 4000 in
theorem kX10_speaksWithBoth : calV yX10_speaksWithBoth cX10_speaksWithBoth 4 (some .boolean) 2 := ⟨⟨u627, u1, by decide +kernel, by decide +kernel, by decide +kernel⟩, u626, us20⟩
set_option maxRecDepth 4000 in
theorem kX10_bookByOrder : calV yX10_bookByOrder cX10_bookByOrder 4 (some .boolean) 2 := ⟨⟨u635, u1, by decide +kernel, by decide +kernel, by decide +kernel⟩, u634, us21⟩
set_option maxRecDepth 4000 in
theorem kX10_firstFreeSlot : calV yX10_firstFreeSlot cX10_firstFreeSlot 6 (some .int) 1 := ⟨⟨u639, u1, by decide +kernel, by decide +kernel, by decide +kernel⟩, u638, us22⟩
set_option maxRecDepth 4000 in
theorem kX10_nameAfter : calV yX10_nameAfter cX10_nameAfter 6 (some .int) 3 := ⟨⟨u728, u1, by decide +kernel, by decide +kernel, by decide +kernel⟩, u727, us24⟩
set_option maxRecDepth 4000 in
theorem kX11_init : calI yX11_init cX11_init 1 0 := ⟨⟨u753, u9, by decide +kernel, by decide +kernel, by decide +kernel⟩, rfl, u752⟩
set_option maxRecDepth 4000 in
theorem kX11_in : calS yX11_in cX11_in 3 (some .boolean) 3 := ⟨⟨u875, u9, by decide +kernel, by decide +kernel, by decide +kernel⟩, u874⟩
set_option maxRecDepth 4000 in
theorem kX11_isPerson : calV yX11_isPerson cX11_isPerson 2 (some .boolean) 1 := ⟨⟨u883, u9, by decide +kernel, by decide +kernel, by decide +kernel⟩, u882, us26⟩
set_option maxRecDepth 4000 in
theorem kX11_isNotice : calV yX11_isNotice cX11_isNotice 2 (some .boolean) 1 := ⟨⟨u960, u9, by decide +kernel, by decide +kernel, by decide +kernel⟩, u959, us38⟩
set_option maxRecDepth 4000 in
theorem kX11_law : calV yX11_law cX11_law 11 (some .boolean) 4 := ⟨⟨u870, u9, by decide +kernel, by decide +kernel, by decide +kernel⟩, u868, u869⟩
set_option maxRecDepth 4000 in
theorem kX11_inForce : calV yX11_inForce cX11_inForce 5 (some (.array .int)) 2 := ⟨⟨u940, u9, by decide +kernel, by decide +kernel, by decide +kernel⟩, u939, us35⟩
set_option maxRecDepth 4000 in
theorem kX11_asks : calV yX11_asks cX11_asks 4 (some .int) 3 := ⟨⟨u936, u9, by decide +kernel, by decide +kernel, by decide +kernel⟩, u935, us34⟩
set_option maxRecDepth 4000 in
theorem kX11_person : calV yX11_person cX11_person 8 (some .int) 4 := ⟨⟨u879, u9, by decide +kernel, by decide +kernel, by decide +kernel⟩, u877, u878⟩
set_option maxRecDepth 4000 in
theorem kX11_paper : calV yX11_paper cX11_paper 4 (some .boolean) 3 := ⟨⟨u887, u9, by decide +kernel, by decide +kernel, by decide +kernel⟩, u885, u886⟩
set_option maxRecDepth 4000 in
theorem kX11_hasPaper : calV yX11_hasPaper cX11_hasPaper 5 (some .boolean) 3 := ⟨⟨u948, u9, by decide +kernel, by decide +kernel, by decide +kernel⟩, u947, us37⟩
set_option maxRecDepth 4000 in
theorem kX11_isFree : calV yX11_isFree cX11_isFree 2 (some .boolean) 1 := ⟨⟨u895, u9, by decide +kernel, by decide +kernel, by decide +kernel⟩, u894, us27⟩
set_option maxRecDepth 4000 in
theorem kX11_feast : calV yX11_feast cX11_feast 2 (some .boolean) 1 := ⟨⟨u891, u9, by decide +kernel, by decide +kernel, by decide +kernel⟩, u889, u890⟩
set_option maxRecDepth 4000 in
theorem kX11_go : calV yX11_go cX11_go 2 (some .int) 1 := ⟨⟨u899, u9, by decide +kernel, by decide +kernel, by decide +kernel⟩, u897, u898⟩
set_option maxRecDepth 4000 in
theorem kX11_isParent : calV yX11_isParent cX11_isParent 3 (some .boolean) 2 := ⟨⟨u912, u9, by decide +kernel, by decide +kernel, by decide +kernel⟩, u911, us29⟩
set_option maxRecDepth 4000 in
theorem kX11_share : calV yX11_share cX11_share 3 (some .boolean) 2 := ⟨⟨u916, u9, by decide +kernel, by decide +kernel, by decide +kernel⟩, u915, us30⟩
set_option maxRecDepth 4000 in
theorem kX11_parent : calV yX11_parent cX11_parent 3 (some .int) 2 := ⟨⟨u920, u9, by decide +kernel, by decide +kernel, by decide +kernel⟩, u919, us31⟩
set_option maxRecDepth 4000 in
theorem kX11_kinOf : calV yX11_kinOf cX11_kinOf 8 (some .int) 2 := ⟨⟨u908, u9, by decide +kernel, by decide +kernel, by decide +kernel⟩, u907, us28⟩
set_option maxRecDepth 4000 in
theorem kX11_kin : calV yX11_kin cX11_kin 3 (some .int) 2 := ⟨⟨u904, u9, by decide +kernel, by decide +kernel, by decide +kernel⟩, u902, u903⟩
set_option maxRecDepth 4000 in
theorem kX11_isYoung : calV yX11_isYoung cX11_isYoung 3 (some .boolean) 2 := ⟨⟨u932, u9, by decide +kernel, by decide +kernel, by decide +kernel⟩, u931, us33⟩
set_option maxRecDepth 4000 in
theorem kX11_lacks : calV yX11_lacks cX11_lacks 4 (some .boolean) 2 := ⟨⟨u944, u9, by decide +kernel, by decide +kernel, by decide +kernel⟩, u943, us36⟩
set_option maxRecDepth 4000 in
theorem kX11_stands : calV yX11_stands cX11_stands 5 (some .int) 3 := ⟨⟨u928, u9, by decide +kernel, by decide +kernel, by decide +kernel⟩, u927, us32⟩
set_option maxRecDepth 4000 in
theorem kX11_against : calV yX11_against cX11_against 4 (some .int) 3 := ⟨⟨u924, u9, by decide +kernel, by decide +kernel, by decide +kernel⟩, u922, u923⟩
set_option maxRecDepth 4000 in
theorem kX11_post : calV yX11_post cX11_post 4 (some .int) 2 := ⟨⟨u952, u9, by decide +kernel, by decide +kernel, by decide +kernel⟩, u950, u951⟩
set_option maxRecDepth 4000 in
theorem kX11_withdraw : calV yX11_withdraw cX11_withdraw 2 (some .boolean) 1 := ⟨⟨u956, u9, by decide +kernel, by decide +kernel, by decide +kernel⟩, u954, u955⟩
set_option maxRecDepth 4000 in
theorem kX11_hungOf : calV yX11_hungOf cX11_hungOf 5 (some .int) 2 := ⟨⟨u968, u9, by decide +kernel, by decide +kernel, by decide +kernel⟩, u967, us39⟩
set_option maxRecDepth 4000 in
theorem kX11_hung : calV yX11_hung cX11_hung 3 (some .int) 2 := ⟨⟨u964, u9, by decide +kernel, by decide +kernel, by decide +kernel⟩, u962, u963⟩
set_option maxRecDepth 4000 in
theorem kX11_wanted : calV yX11_wanted cX11_wanted 3 (some .int) 2 := ⟨⟨u980, u9, by decide +kernel, by decide +kernel, by decide +kernel⟩, u979, us41⟩
set_option maxRecDepth 4000 in
theorem kX11_ripeOf : calV yX11_ripeOf cX11_ripeOf 4 (some .int) 1 := ⟨⟨u976, u9, by decide +kernel, by decide +kernel, by decide +kernel⟩, u975, us40⟩
set_option maxRecDepth 4000 in
theorem kX11_ripe : calV yX11_ripe cX11_ripe 2 (some .int) 1 := ⟨⟨u972, u9, by decide +kernel, by decide +kernel, by decide +kernel⟩, u970, u971⟩
set_option maxRecDepth 4000 in
theorem kX11_objected : calV yX11_objected cX11_objected 4 (some .int) 1 := ⟨⟨u1009, u9, by decide +kernel, by decide +kernel, by decide +kernel⟩, u1008, us44⟩
set_option maxRecDepth 4000 in
theorem kX11_isRipe : calV yX11_isRipe cX11_isRipe 3 (some .boolean) 2 := ⟨⟨u1005, u9, by decide +kernel, by decide +kernel, by decide +kernel⟩, u1004, us43⟩
set_option maxRecDepth 4000 in
theorem kX11_object : calV yX11_object cX11_object 3 (some .int) 1 := ⟨⟨u985, u9, by decide +kernel, by decide +kernel, by decide +kernel⟩, u983, u984⟩
set_option maxRecDepth 4000 in
theorem kX11_judge : calV yX11_judge cX11_judge 3 (some .boolean) 2 := ⟨⟨u989, u9, by decide +kernel, by decide +kernel, by decide +kernel⟩, u987, u988⟩
set_option maxRecDepth 4000 in
theorem kX11_registrar : calV yX11_registrar cX11_registrar 2 (some .int) 1 := ⟨⟨u993, u9, by decide +kernel, by decide +kernel, by decide +kernel⟩, u991, u992⟩
set_option maxRecDepth 4000 in
theorem kX11_bars : calV yX11_bars cX11_bars 11 (some .int) 5 := ⟨⟨u1001, u9, by decide +kernel, by decide +kernel, by decide +kernel⟩, u1000, us42⟩
set_option maxRecDepth 4000 in
theorem kX11_book : calV yX11_book cX11_book 8 (some .int) 3 := ⟨⟨u997, u9, by decide +kernel, by decide +kernel, by decide +kernel⟩, u995, u996⟩
set_option maxRecDepth 4000 in
theorem kX11_finds : calV yX11_finds cX11_finds 6 (some .boolean) 2 := ⟨⟨u1017, u9, by decide +kernel, by decide +kernel, by decide +kernel⟩, u1016, us45⟩
set_option maxRecDepth 4000 in
theorem kX11_order : calV yX11_order cX11_order 4 (some .int) 1 := ⟨⟨u1013, u9, by decide +kernel, by decide +kernel, by decide +kernel⟩, u1011, u1012⟩
set_option maxRecDepth 4000 in
theorem kX11_wed : calV yX11_wed cX11_wed 5 (some .int) 1 := ⟨⟨u1021, u9, by decide +kernel, by decide +kernel, by decide +kernel⟩, u1019, u1020⟩
set_option maxRecDepth 4000 in
theorem kX11_part : calV yX11_part cX11_part 2 (some .boolean) 1 := ⟨⟨u1025, u9, by decide +kernel, by decide +kernel, by decide +kernel⟩, u1023, u1024⟩
set_option maxRecDepth 4000 in
theorem kX11_correct : calV yX11_correct cX11_correct 4 (some .boolean) 3 := ⟨⟨u1029, u9, by decide +kernel, by decide +kernel, by decide +kernel⟩, u1027, u1028⟩
set_option maxRecDepth 4000 in
theorem kX11_entry : calV yX11_entry cX11_entry 6 (some .int) 3 := ⟨⟨u1033, u9, by decide +kernel, by decide +kernel, by decide +kernel⟩, u1031, u1032⟩
set_option maxRecDepth 4000 in
theorem kX11_nameOf : calV yX11_nameOf cX11_nameOf 6 (some .int) 3 := ⟨⟨u1041, u9, by decide +kernel, by decide +kernel, by decide +kernel⟩, u1040, us46⟩
set_option maxRecDepth 4000 in
theorem kX11_name : calV yX11_name cX11_name 4 (some .int) 3 := ⟨⟨u1037, u9, by decide +kernel, by decide +kernel, by decide +kernel⟩, u1035, u1036⟩
set_option maxRecDepth 4000 in
theorem kX11_quarrel : calV yX11_quarrel cX11_quarrel 2 (some .boolean) 1 := ⟨⟨u1045, u9, by decide +kernel, by decide +kernel, by decide +kernel⟩, u1043, u1044⟩
set_option maxRecDepth 4000 in
theorem kX11_told : calV yX11_told cX11_told 3 (some .int) 2 := ⟨⟨u1049, u9, by decide +kernel, by decide +kernel, by decide +kernel⟩, u1047, u1048⟩
set_option maxRecDepth 4000 in
theorem kX11_married : calV yX11_married cX11_married 2 (some .int) 1 := ⟨⟨u1053, u9, by decide +kernel, by decide +kernel, by decide +kernel⟩, u1051, u1052⟩
set_option maxRecDepth 4000 in
theorem kX11_count : calV yX11_count cX11_count 4 (some .int) 1 := ⟨⟨u1057, u9, by decide +kernel, by decide +kernel, by decide +kernel⟩, u1055, u1056⟩
set_option maxRecDepth 4000 in
theorem kJ13_bitCount_95d88 : calS yJ13_bitCount_95d88 cJ13_bitCount_95d88 2 (some .int) 1 := ⟨⟨u509, u19, by decide +kernel, by decide +kernel, by decide +kernel⟩, u508⟩
set_option maxRecDepth 4000 in
theorem kJ9_max_7cf53 : calS yJ9_max_7cf53 cJ9_max_7cf53 2 (some .int) 2 := ⟨⟨u219, u11, by decide +kernel, by decide +kernel, by decide +kernel⟩, u218⟩
set_option maxRecDepth 4000 in
theorem kJ9_min_7cf53 : calS yJ9_min_7cf53 cJ9_min_7cf53 2 (some .int) 2 := ⟨⟨u252, u11, by decide +kernel, by decide +kernel, by decide +kernel⟩, u251⟩
set_option maxRecDepth 4000 in
theorem kJxa1e45_init_da8c8 : calI yJxa1e45_init_da8c8 cJxa1e45_init_da8c8 1 0 := ⟨⟨u59, u4, by decide +kernel, by decide +kernel, by decide +kernel⟩, rfl, u58⟩
set_option maxRecDepth 4000 in
theorem kJxc12de_init_da8c8 : calI yJxc12de_init_da8c8 cJxc12de_init_da8c8 1 0 := ⟨⟨u56, u5, by decide +kernel, by decide +kernel, by decide +kernel⟩, rfl, u55⟩
set_option maxRecDepth 4000 in
theorem kJx4a65c_init_da8c8 : calI yJx4a65c_init_da8c8 cJx4a65c_init_da8c8 1 0 := ⟨⟨u53, u6, by decide +kernel, by decide +kernel, by decide +kernel⟩, rfl, u52⟩
set_option maxRecDepth 4000 in
theorem kJx4a65c_grow_92f84 : calV yJx4a65c_grow_92f84 cJx4a65c_grow_92f84 4 (some (.array (.object "java/lang/Object"))) 1 := ⟨⟨u213, u6, by decide +kernel, by decide +kernel, by decide +kernel⟩, u212, us2⟩
set_option maxRecDepth 4000 in
theorem kJx4a65c_grow_d5877 : calV yJx4a65c_grow_d5877 cJx4a65c_grow_d5877 1 (some (.array (.object "java/lang/Object"))) 0 := ⟨⟨u209, u6, by decide +kernel, by decide +kernel, by decide +kernel⟩, u208, us1⟩
set_option maxRecDepth 4000 in
theorem kJx4a65c_size_8abf5 : calV yJx4a65c_size_8abf5 cJx4a65c_size_8abf5 1 (some .int) 0 := ⟨⟨u191, u6, by decide +kernel, by decide +kernel, by decide +kernel⟩, u189, u190⟩
set_option maxRecDepth 4000 in
theorem kJx4a65c_elementData_915e3 : calV yJx4a65c_elementData_915e3 cJx4a65c_elementData_915e3 2 (some (.object "java/lang/Object")) 1 := ⟨⟨u288, u6, by decide +kernel, by decide +kernel, by decide +kernel⟩, u286, u287⟩
set_option maxRecDepth 4000 in
theorem kJx4a65c_get_915e3 : calV yJx4a65c_get_915e3 cJx4a65c_get_915e3 2 (some (.object "java/lang/Object")) 1 := ⟨⟨u278, u6, by decide +kernel, by decide +kernel, by decide +kernel⟩, u276, u277⟩
set_option maxRecDepth 4000 in
theorem kJx4a65c_add_72be8 : calV yJx4a65c_add_72be8 cJx4a65c_add_72be8 4 none 3 := ⟨⟨u205, u6, by decide +kernel, by decide +kernel, by decide +kernel⟩, u204, us0⟩
set_option maxRecDepth 4000 in
theorem kJx4a65c_add_9ea2d : calV yJx4a65c_add_9ea2d cJx4a65c_add_9ea2d 2 (some .boolean) 1 := ⟨⟨u201, u6, by decide +kernel, by decide +kernel, by decide +kernel⟩, u199, u200⟩
set_option maxRecDepth 4000 in
theorem kJ7_fill_53178 : calS yJ7_fill_53178 cJ7_fill_53178 4 none 2 := ⟨⟨u592, u12, by decide +kernel, by decide +kernel, by decide +kernel⟩, u591⟩
set_option maxRecDepth 4000 in
theorem kJ7_copyOf_1904c : calS yJ7_copyOf_1904c cJ7_copyOf_1904c 2 (some (.array (.object "java/lang/Object"))) 2 := ⟨⟨u226, u12, by decide +kernel, by decide +kernel, by decide +kernel⟩, u225⟩
set_option maxRecDepth 4000 in
theorem kJ7_copyOf_6403c : calS yJ7_copyOf_6403c cJ7_copyOf_6403c 4 (some (.array (.object "java/lang/Object"))) 3 := ⟨⟨u246, u12, by decide +kernel, by decide +kernel, by decide +kernel⟩, u245⟩
set_option maxRecDepth 4000 in
theorem kJ15_checkIndex_7cf53 : calS yJ15_checkIndex_7cf53 cJ15_checkIndex_7cf53 2 (some .int) 2 := ⟨⟨u281, u15, by decide +kernel, by decide +kernel, by decide +kernel⟩, u280⟩
set_option maxRecDepth 4000 in
theorem kJ8_newLength_cabcc : calS yJ8_newLength_cabcc cJ8_newLength_cabcc 4 (some .int) 3 := ⟨⟨u216, u10, by decide +kernel, by decide +kernel, by decide +kernel⟩, u215⟩
set_option maxRecDepth 4000 in
theorem kJ8_hugeLength_7cf53 : calS yJ8_hugeLength_7cf53 cJ8_hugeLength_7cf53 3 (some .int) 2 := ⟨⟨u223, u10, by decide +kernel, by decide +kernel, by decide +kernel⟩, u222⟩
set_option maxRecDepth 4000 in
theorem kJ3_checkIndex_8e157 : calS yJ3_checkIndex_8e157 cJ3_checkIndex_8e157 3 (some .int) 3 := ⟨⟨u284, u16, by decide +kernel, by decide +kernel, by decide +kernel⟩, u283⟩
