/-! the methods that the law calls -/
set_option maxRecDepth 100000 in
theorem LM_X11_weeks (l : Launch) : LM l 13 yX11_weeks cX11_weeks 3 ((some FieldType.int)) 1 0 0 c_X11_weeks RX11 := ⟨6, (m_X11_weeks l).q, by decide, by decide, k_X11_weeks, rfl, p_X11_weeks, mj_tw_in (List.mem_of_getElem? (i := 661) (by decide +kernel)) rfl, n_X11_weeks, e_X11_weeks⟩
set_option maxRecDepth 100000 in
theorem LM_X12_weeks (l : Launch) : LM l 17 yX12_weeks cX12_weeks 4 ((some FieldType.int)) 1 0 0 c_X12_weeks RX12 := ⟨8, (m_X12_weeks l).q, by decide, by decide, k_X12_weeks, rfl, p_X12_weeks, mj_tw_in (List.mem_of_getElem? (i := 2122) (by decide +kernel)) rfl, n_X12_weeks, e_X12_weeks⟩
set_option maxRecDepth 100000 in
theorem LM_X11_draw (l : Launch) : LM l 18 yX11_draw cX11_draw 9 ((some FieldType.boolean)) 6 0 0 c_X11_draw RX11 := ⟨2, (m_X11_draw l).q, by decide, by decide, k_X11_draw, rfl, p_X11_draw, mj_tw_in (List.mem_of_getElem? (i := 758) (by decide +kernel)) rfl, n_X11_draw, e_X11_draw⟩
set_option maxRecDepth 100000 in
theorem LM_X12_draw (l : Launch) : LM l 22 yX12_draw cX12_draw 9 ((some FieldType.boolean)) 6 0 0 c_X12_draw RX12 := ⟨1, (m_X12_draw l).q, by decide, by decide, k_X12_draw, rfl, p_X12_draw, mj_tw_in (List.mem_of_getElem? (i := 1712) (by decide +kernel)) rfl, n_X12_draw, e_X12_draw⟩
set_option maxRecDepth 100000 in
theorem LM_X11_walk (l : Launch) : LM l 23 yX11_walk cX11_walk 5 ((some FieldType.int)) 3 1 120 c_X11_walk RX11 := ⟨4, (m_X11_walk l).q, by decide, by decide, k_X11_walk, rfl, p_X11_walk, mj_tw_in (List.mem_of_getElem? (i := 769) (by decide +kernel)) rfl, n_X11_walk, e_X11_walk⟩
set_option maxRecDepth 100000 in
theorem LM_X12_walk (l : Launch) : LM l 27 yX12_walk cX12_walk 4 ((some FieldType.int)) 3 0 0 c_X12_walk RX12 := ⟨4, (m_X12_walk l).q, by decide, by decide, k_X12_walk, rfl, p_X12_walk, mj_tw_in (List.mem_of_getElem? (i := 1719) (by decide +kernel)) rfl, n_X12_walk, e_X12_walk⟩
set_option maxRecDepth 100000 in
theorem LM_X11_rain (l : Launch) : LM l 28 yX11_rain cX11_rain 4 ((some FieldType.boolean)) 3 0 0 c_X11_rain RX11 := ⟨1, (m_X11_rain l).q, by decide, by decide, k_X11_rain, rfl, p_X11_rain, mj_tw_in (List.mem_of_getElem? (i := 787) (by decide +kernel)) rfl, n_X11_rain, e_X11_rain⟩
set_option maxRecDepth 100000 in
theorem LM_X12_rain (l : Launch) : LM l 32 yX12_rain cX12_rain 5 ((some FieldType.boolean)) 3 0 0 c_X12_rain RX12 := ⟨1, (m_X12_rain l).q, by decide, by decide, k_X12_rain, rfl, p_X12_rain, mj_tw_in (List.mem_of_getElem? (i := 1742) (by decide +kernel)) rfl, n_X12_rain, e_X12_rain⟩
set_option maxRecDepth 100000 in
theorem LM_X11_village (l : Launch) : LM l 33 yX11_village cX11_village 4 ((some FieldType.int)) 3 0 0 c_X11_village RX11 := ⟨2, (m_X11_village l).q, by decide, by decide, k_X11_village, rfl, p_X11_village, mj_tw_in (List.mem_of_getElem? (i := 795) (by decide +kernel)) rfl, n_X11_village, e_X11_village⟩
set_option maxRecDepth 100000 in
theorem LM_X12_village (l : Launch) : LM l 36 yX12_village cX12_village 4 ((some FieldType.int)) 3 0 0 c_X12_village RX12 := ⟨2, (m_X12_village l).q, by decide, by decide, k_X12_village, rfl, p_X12_village, mj_tw_in (List.mem_of_getElem? (i := 1746) (by decide +kernel)) rfl, n_X12_village, e_X12_village⟩
set_option maxRecDepth 100000 in
theorem LM_X11_count (l : Launch) : LM l 37 yX11_count cX11_count 5 ((some FieldType.boolean)) 4 0 0 c_X11_count RX11 := ⟨2, (m_X11_count l).q, by decide, by decide, k_X11_count, rfl, p_X11_count, mj_tw_in (List.mem_of_getElem? (i := 806) (by decide +kernel)) rfl, n_X11_count, e_X11_count⟩
set_option maxRecDepth 100000 in
theorem LM_X12_count (l : Launch) : LM l 41 yX12_count cX12_count 5 ((some FieldType.boolean)) 4 0 0 c_X12_count RX12 := ⟨2, (m_X12_count l).q, by decide, by decide, k_X12_count, rfl, p_X12_count, mj_tw_in (List.mem_of_getElem? (i := 1753) (by decide +kernel)) rfl, n_X12_count, e_X12_count⟩
set_option maxRecDepth 100000 in
theorem LM_X11_child (l : Launch) : LM l 42 yX11_child cX11_child 5 ((some FieldType.int)) 4 0 0 c_X11_child RX11 := ⟨2, (m_X11_child l).q, by decide, by decide, k_X11_child, rfl, p_X11_child, mj_tw_in (List.mem_of_getElem? (i := 821) (by decide +kernel)) rfl, n_X11_child, e_X11_child⟩
set_option maxRecDepth 100000 in
theorem LM_X12_child (l : Launch) : LM l 46 yX12_child cX12_child 5 ((some FieldType.int)) 4 0 0 c_X12_child RX12 := ⟨2, (m_X12_child l).q, by decide, by decide, k_X12_child, rfl, p_X12_child, mj_tw_in (List.mem_of_getElem? (i := 1764) (by decide +kernel)) rfl, n_X12_child, e_X12_child⟩
set_option maxRecDepth 100000 in
theorem LM_X11_school (l : Launch) : LM l 47 yX11_school cX11_school 7 ((some FieldType.int)) 5 0 0 c_X11_school RX11 := ⟨2, (m_X11_school l).q, by decide, by decide, k_X11_school, rfl, p_X11_school, mj_tw_in (List.mem_of_getElem? (i := 834) (by decide +kernel)) rfl, n_X11_school, e_X11_school⟩
set_option maxRecDepth 100000 in
theorem LM_X12_school (l : Launch) : LM l 51 yX12_school cX12_school 7 ((some FieldType.int)) 5 0 0 c_X12_school RX12 := ⟨2, (m_X12_school l).q, by decide, by decide, k_X12_school, rfl, p_X12_school, mj_tw_in (List.mem_of_getElem? (i := 1776) (by decide +kernel)) rfl, n_X12_school, e_X12_school⟩
set_option maxRecDepth 100000 in
theorem LM_X11_far (l : Launch) : LM l 52 yX11_far cX11_far 3 ((some FieldType.boolean)) 2 0 0 c_X11_far RX11 := ⟨2, (m_X11_far l).q, by decide, by decide, k_X11_far, rfl, p_X11_far, mj_tw_in (List.mem_of_getElem? (i := 848) (by decide +kernel)) rfl, n_X11_far, e_X11_far⟩
set_option maxRecDepth 100000 in
theorem LM_X12_far (l : Launch) : LM l 56 yX12_far cX12_far 3 ((some FieldType.boolean)) 2 0 0 c_X12_far RX12 := ⟨2, (m_X12_far l).q, by decide, by decide, k_X12_far, rfl, p_X12_far, mj_tw_in (List.mem_of_getElem? (i := 1780) (by decide +kernel)) rfl, n_X12_far, e_X12_far⟩
set_option maxRecDepth 100000 in
theorem LM_X11_shut (l : Launch) : LM l 57 yX11_shut cX11_shut 3 ((some FieldType.boolean)) 2 0 0 c_X11_shut RX11 := ⟨2, (m_X11_shut l).q, by decide, by decide, k_X11_shut, rfl, p_X11_shut, mj_tw_in (List.mem_of_getElem? (i := 856) (by decide +kernel)) rfl, n_X11_shut, e_X11_shut⟩
set_option maxRecDepth 100000 in
theorem LM_X12_shut (l : Launch) : LM l 60 yX12_shut cX12_shut 3 ((some FieldType.boolean)) 2 0 0 c_X12_shut RX12 := ⟨2, (m_X12_shut l).q, by decide, by decide, k_X12_shut, rfl, p_X12_shut, mj_tw_in (List.mem_of_getElem? (i := 1788) (by decide +kernel)) rfl, n_X12_shut, e_X12_shut⟩
set_option maxRecDepth 100000 in
theorem LM_X11_schooled (l : Launch) : LM l 61 yX11_schooled cX11_schooled 3 ((some FieldType.int)) 2 0 0 c_X11_schooled RX11 := ⟨2, (m_X11_schooled l).q, by decide, by decide, k_X11_schooled, rfl, p_X11_schooled, mj_tw_in (List.mem_of_getElem? (i := 869) (by decide +kernel)) rfl, n_X11_schooled, e_X11_schooled⟩
set_option maxRecDepth 100000 in
theorem LM_X12_schooled (l : Launch) : LM l 65 yX12_schooled cX12_schooled 3 ((some FieldType.int)) 2 0 0 c_X12_schooled RX12 := ⟨2, (m_X12_schooled l).q, by decide, by decide, k_X12_schooled, rfl, p_X12_schooled, mj_tw_in (List.mem_of_getElem? (i := 1792) (by decide +kernel)) rfl, n_X12_schooled, e_X12_schooled⟩
set_option maxRecDepth 100000 in
theorem LM_X11_feed (l : Launch) : LM l 66 yX11_feed cX11_feed 7 ((some FieldType.int)) 5 0 0 c_X11_feed RX11 := ⟨1, (m_X11_feed l).q, by decide, by decide, k_X11_feed, rfl, p_X11_feed, mj_tw_in (List.mem_of_getElem? (i := 873) (by decide +kernel)) rfl, n_X11_feed, e_X11_feed⟩
set_option maxRecDepth 100000 in
theorem LM_X12_feed (l : Launch) : LM l 69 yX12_feed cX12_feed 9 ((some FieldType.int)) 5 0 0 c_X12_feed RX12 := ⟨1, (m_X12_feed l).q, by decide, by decide, k_X12_feed, rfl, p_X12_feed, mj_tw_in (List.mem_of_getElem? (i := 1796) (by decide +kernel)) rfl, n_X12_feed, e_X12_feed⟩
set_option maxRecDepth 100000 in
theorem LM_X11_end (l : Launch) : LM l 70 yX11_end cX11_end 2 ((some FieldType.boolean)) 1 0 0 c_X11_end RX11 := ⟨1, (m_X11_end l).q, by decide, by decide, k_X11_end, rfl, p_X11_end, mj_tw_in (List.mem_of_getElem? (i := 884) (by decide +kernel)) rfl, n_X11_end, e_X11_end⟩
set_option maxRecDepth 100000 in
theorem LM_X12_end (l : Launch) : LM l 74 yX12_end cX12_end 2 ((some FieldType.boolean)) 1 0 0 c_X12_end RX12 := ⟨0, (m_X12_end l).q, by decide, by decide, k_X12_end, rfl, p_X12_end, mj_tw_in (List.mem_of_getElem? (i := 1803) (by decide +kernel)) rfl, n_X12_end, e_X12_end⟩
set_option maxRecDepth 100000 in
theorem LM_X11_fault (l : Launch) : LM l 75 yX11_fault cX11_fault 1 ((some FieldType.int)) 0 0 0 c_X11_fault RX11 := ⟨70, (m_X11_fault l).q, by decide, by decide, k_X11_fault, rfl, p_X11_fault, mj_tw_in (List.mem_of_getElem? (i := 888) (by decide +kernel)) rfl, n_X11_fault, e_X11_fault⟩
set_option maxRecDepth 100000 in
theorem LM_X12_fault (l : Launch) : LM l 79 yX12_fault cX12_fault 1 ((some FieldType.int)) 0 0 0 c_X12_fault RX12 := ⟨69, (m_X12_fault l).q, by decide, by decide, k_X12_fault, rfl, p_X12_fault, mj_tw_in (List.mem_of_getElem? (i := 1807) (by decide +kernel)) rfl, n_X12_fault, e_X12_fault⟩
set_option maxRecDepth 100000 in
theorem LM_X11_law (l : Launch) : LM l 80 yX11_law cX11_law 4 ((some FieldType.int)) 2 2 328 c_X11_law RX11 := ⟨70, (m_X11_law l).q, by decide, by decide, k_X11_law, rfl, p_X11_law, mj_tw_in (List.mem_of_getElem? (i := 970) (by decide +kernel)) rfl, n_X11_law, e_X11_law⟩
set_option maxRecDepth 100000 in
theorem LM_X12_law (l : Launch) : LM l 83 yX12_law cX12_law 4 ((some FieldType.int)) 2 0 0 c_X12_law RX12 := ⟨70, (m_X12_law l).q, by decide, by decide, k_X12_law, rfl, p_X12_law, mj_tw_in (List.mem_of_getElem? (i := 1879) (by decide +kernel)) rfl, n_X12_law, e_X12_law⟩
set_option maxRecDepth 100000 in
theorem LM_X11_worth (l : Launch) : LM l 84 yX11_worth cX11_worth 10 ((some FieldType.int)) 8 0 0 c_X11_worth RX11 := ⟨4, (m_X11_worth l).q, by decide, by decide, k_X11_worth, rfl, p_X11_worth, mj_tw_in (List.mem_of_getElem? (i := 992) (by decide +kernel)) rfl, n_X11_worth, e_X11_worth⟩
set_option maxRecDepth 100000 in
theorem LM_X12_worth (l : Launch) : LM l 88 yX12_worth cX12_worth 9 ((some FieldType.int)) 8 0 0 c_X12_worth RX12 := ⟨7, (m_X12_worth l).q, by decide, by decide, k_X12_worth, rfl, p_X12_worth, mj_tw_in (List.mem_of_getElem? (i := 1884) (by decide +kernel)) rfl, n_X12_worth, e_X12_worth⟩
set_option maxRecDepth 100000 in
theorem LM_X11_why (l : Launch) : LM l 89 yX11_why cX11_why 10 ((some FieldType.int)) 8 0 0 c_X11_why RX11 := ⟨4, (m_X11_why l).q, by decide, by decide, k_X11_why, rfl, p_X11_why, mj_tw_in (List.mem_of_getElem? (i := 1000) (by decide +kernel)) rfl, n_X11_why, e_X11_why⟩
set_option maxRecDepth 100000 in
theorem LM_X12_why (l : Launch) : LM l 92 yX12_why cX12_why 9 ((some FieldType.int)) 8 0 0 c_X12_why RX12 := ⟨6, (m_X12_why l).q, by decide, by decide, k_X12_why, rfl, p_X12_why, mj_tw_in (List.mem_of_getElem? (i := 1926) (by decide +kernel)) rfl, n_X12_why, e_X12_why⟩
set_option maxRecDepth 100000 in
theorem LM_X11_quarrel (l : Launch) : LM l 93 yX11_quarrel cX11_quarrel 4 ((some FieldType.int)) 3 0 0 c_X11_quarrel RX11 := ⟨5, (m_X11_quarrel l).q, by decide, by decide, k_X11_quarrel, rfl, p_X11_quarrel, mj_tw_in (List.mem_of_getElem? (i := 1004) (by decide +kernel)) rfl, n_X11_quarrel, e_X11_quarrel⟩
set_option maxRecDepth 100000 in
theorem LM_X11_places (l : Launch) : LM l 97 yX11_places cX11_places 4 ((some FieldType.int)) 3 0 0 c_X11_places RX11 := ⟨5, (m_X11_places l).q, by decide, by decide, k_X11_places, rfl, p_X11_places, mj_tw_in (List.mem_of_getElem? (i := 1014) (by decide +kernel)) rfl, n_X11_places, e_X11_places⟩
set_option maxRecDepth 100000 in
theorem LM_X12_places (l : Launch) : LM l 100 yX12_places cX12_places 4 ((some FieldType.int)) 3 0 0 c_X12_places RX12 := ⟨9, (m_X12_places l).q, by decide, by decide, k_X12_places, rfl, p_X12_places, mj_tw_in (List.mem_of_getElem? (i := 1976) (by decide +kernel)) rfl, n_X12_places, e_X12_places⟩
set_option maxRecDepth 100000 in
theorem LM_X11_reach (l : Launch) : LM l 101 yX11_reach cX11_reach 5 ((some FieldType.int)) 4 25 3000 c_X11_reach RX11 := ⟨6, (m_X11_reach l).q, by decide, by decide, k_X11_reach, rfl, p_X11_reach, mj_tw_in (List.mem_of_getElem? (i := 1031) (by decide +kernel)) rfl, n_X11_reach, e_X11_reach⟩
set_option maxRecDepth 100000 in
theorem LM_X12_reach (l : Launch) : LM l 104 yX12_reach cX12_reach 5 ((some FieldType.int)) 4 0 0 c_X12_reach RX12 := ⟨9, (m_X12_reach l).q, by decide, by decide, k_X12_reach, rfl, p_X12_reach, mj_tw_in (List.mem_of_getElem? (i := 2005) (by decide +kernel)) rfl, n_X12_reach, e_X12_reach⟩
set_option maxRecDepth 100000 in
theorem LM_X11_seated (l : Launch) : LM l 105 yX11_seated cX11_seated 5 ((some FieldType.int)) 4 25 3000 c_X11_seated RX11 := ⟨6, (m_X11_seated l).q, by decide, by decide, k_X11_seated, rfl, p_X11_seated, mj_tw_in (List.mem_of_getElem? (i := 1058) (by decide +kernel)) rfl, n_X11_seated, e_X11_seated⟩
set_option maxRecDepth 100000 in
theorem LM_X12_seated (l : Launch) : LM l 108 yX12_seated cX12_seated 7 ((some FieldType.int)) 4 0 0 c_X12_seated RX12 := ⟨11, (m_X12_seated l).q, by decide, by decide, k_X12_seated, rfl, p_X12_seated, mj_tw_in (List.mem_of_getElem? (i := 2029) (by decide +kernel)) rfl, n_X12_seated, e_X12_seated⟩
set_option maxRecDepth 100000 in
theorem LM_X11_unseated (l : Launch) : LM l 109 yX11_unseated cX11_unseated 4 ((some FieldType.int)) 3 25 3000 c_X11_unseated RX11 := ⟨6, (m_X11_unseated l).q, by decide, by decide, k_X11_unseated, rfl, p_X11_unseated, mj_tw_in (List.mem_of_getElem? (i := 1080) (by decide +kernel)) rfl, n_X11_unseated, e_X11_unseated⟩
set_option maxRecDepth 100000 in
theorem LM_X12_unseated (l : Launch) : LM l 112 yX12_unseated cX12_unseated 6 ((some FieldType.int)) 3 0 0 c_X12_unseated RX12 := ⟨11, (m_X12_unseated l).q, by decide, by decide, k_X12_unseated, rfl, p_X12_unseated, mj_tw_in (List.mem_of_getElem? (i := 2041) (by decide +kernel)) rfl, n_X12_unseated, e_X12_unseated⟩
set_option maxRecDepth 100000 in
theorem LM_X11_most (l : Launch) : LM l 113 yX11_most cX11_most 3 ((some FieldType.int)) 2 25 3000 c_X11_most RX11 := ⟨6, (m_X11_most l).q, by decide, by decide, k_X11_most, rfl, p_X11_most, mj_tw_in (List.mem_of_getElem? (i := 1088) (by decide +kernel)) rfl, n_X11_most, e_X11_most⟩
set_option maxRecDepth 100000 in
theorem LM_X12_most (l : Launch) : LM l 116 yX12_most cX12_most 6 ((some FieldType.int)) 2 0 0 c_X12_most RX12 := ⟨10, (m_X12_most l).q, by decide, by decide, k_X12_most, rfl, p_X12_most, mj_tw_in (List.mem_of_getElem? (i := 2045) (by decide +kernel)) rfl, n_X12_most, e_X12_most⟩
set_option maxRecDepth 100000 in
theorem LM_X11_site (l : Launch) : LM l 117 yX11_site cX11_site 2 ((some FieldType.int)) 1 0 0 c_X11_site RX11 := ⟨2, (m_X11_site l).q, by decide, by decide, k_X11_site, rfl, p_X11_site, mj_tw_in (List.mem_of_getElem? (i := 1114) (by decide +kernel)) rfl, n_X11_site, e_X11_site⟩
set_option maxRecDepth 100000 in
theorem LM_X12_site (l : Launch) : LM l 120 yX12_site cX12_site 2 ((some FieldType.int)) 1 0 0 c_X12_site RX12 := ⟨2, (m_X12_site l).q, by decide, by decide, k_X12_site, rfl, p_X12_site, mj_tw_in (List.mem_of_getElem? (i := 2057) (by decide +kernel)) rfl, n_X12_site, e_X12_site⟩
set_option maxRecDepth 100000 in
theorem LM_X11_cover (l : Launch) : LM l 121 yX11_cover cX11_cover 3 ((some FieldType.int)) 2 25 3000 c_X11_cover RX11 := ⟨6, (m_X11_cover l).q, by decide, by decide, k_X11_cover, rfl, p_X11_cover, mj_tw_in (List.mem_of_getElem? (i := 1122) (by decide +kernel)) rfl, n_X11_cover, e_X11_cover⟩
set_option maxRecDepth 100000 in
theorem LM_X12_cover (l : Launch) : LM l 124 yX12_cover cX12_cover 3 ((some FieldType.int)) 2 0 0 c_X12_cover RX12 := ⟨9, (m_X12_cover l).q, by decide, by decide, k_X12_cover, rfl, p_X12_cover, mj_tw_in (List.mem_of_getElem? (i := 2061) (by decide +kernel)) rfl, n_X12_cover, e_X12_cover⟩
set_option maxRecDepth 100000 in
theorem LM_X11_beyond (l : Launch) : LM l 125 yX11_beyond cX11_beyond 3 ((some FieldType.int)) 2 25 3000 c_X11_beyond RX11 := ⟨6, (m_X11_beyond l).q, by decide, by decide, k_X11_beyond, rfl, p_X11_beyond, mj_tw_in (List.mem_of_getElem? (i := 1160) (by decide +kernel)) rfl, n_X11_beyond, e_X11_beyond⟩
set_option maxRecDepth 100000 in
theorem LM_X12_beyond (l : Launch) : LM l 128 yX12_beyond cX12_beyond 3 ((some FieldType.int)) 2 0 0 c_X12_beyond RX12 := ⟨9, (m_X12_beyond l).q, by decide, by decide, k_X12_beyond, rfl, p_X12_beyond, mj_tw_in (List.mem_of_getElem? (i := 2082) (by decide +kernel)) rfl, n_X12_beyond, e_X12_beyond⟩
set_option maxRecDepth 100000 in
theorem LM_X11_judge (l : Launch) : LM l 129 yX11_judge cX11_judge 4 ((some FieldType.int)) 3 25 3000 c_X11_judge RX11 := ⟨6, (m_X11_judge l).q, by decide, by decide, k_X11_judge, rfl, p_X11_judge, mj_tw_in (List.mem_of_getElem? (i := 1165) (by decide +kernel)) rfl, n_X11_judge, e_X11_judge⟩
set_option maxRecDepth 100000 in
theorem LM_X12_judge (l : Launch) : LM l 132 yX12_judge cX12_judge 4 ((some FieldType.int)) 3 0 0 c_X12_judge RX12 := ⟨9, (m_X12_judge l).q, by decide, by decide, k_X12_judge, rfl, p_X12_judge, mj_tw_in (List.mem_of_getElem? (i := 2086) (by decide +kernel)) rfl, n_X12_judge, e_X12_judge⟩
set_option maxRecDepth 100000 in
theorem LM_X11_maker (l : Launch) : LM l 133 yX11_maker cX11_maker 5 ((some FieldType.int)) 4 0 0 c_X11_maker RX11 := ⟨2, (m_X11_maker l).q, by decide, by decide, k_X11_maker, rfl, p_X11_maker, mj_tw_in (List.mem_of_getElem? (i := 1173) (by decide +kernel)) rfl, n_X11_maker, e_X11_maker⟩
set_option maxRecDepth 100000 in
theorem LM_X12_maker (l : Launch) : LM l 136 yX12_maker cX12_maker 5 ((some FieldType.int)) 4 0 0 c_X12_maker RX12 := ⟨1, (m_X12_maker l).q, by decide, by decide, k_X12_maker, rfl, p_X12_maker, mj_tw_in (List.mem_of_getElem? (i := 2090) (by decide +kernel)) rfl, n_X12_maker, e_X12_maker⟩
set_option maxRecDepth 100000 in
theorem LM_X11_lorry (l : Launch) : LM l 137 yX11_lorry cX11_lorry 2 ((some FieldType.int)) 1 0 0 c_X11_lorry RX11 := ⟨1, (m_X11_lorry l).q, by decide, by decide, k_X11_lorry, rfl, p_X11_lorry, mj_tw_in (List.mem_of_getElem? (i := 1184) (by decide +kernel)) rfl, n_X11_lorry, e_X11_lorry⟩
set_option maxRecDepth 100000 in
theorem LM_X12_lorry (l : Launch) : LM l 140 yX12_lorry cX12_lorry 2 ((some FieldType.int)) 1 0 0 c_X12_lorry RX12 := ⟨1, (m_X12_lorry l).q, by decide, by decide, k_X12_lorry, rfl, p_X12_lorry, mj_tw_in (List.mem_of_getElem? (i := 2094) (by decide +kernel)) rfl, n_X12_lorry, e_X12_lorry⟩
set_option maxRecDepth 100000 in
theorem LM_X11_parts (l : Launch) : LM l 141 yX11_parts cX11_parts 3 ((some FieldType.int)) 2 0 0 c_X11_parts RX11 := ⟨2, (m_X11_parts l).q, by decide, by decide, k_X11_parts, rfl, p_X11_parts, mj_tw_in (List.mem_of_getElem? (i := 1192) (by decide +kernel)) rfl, n_X11_parts, e_X11_parts⟩
set_option maxRecDepth 100000 in
theorem LM_X12_parts (l : Launch) : LM l 144 yX12_parts cX12_parts 3 ((some FieldType.int)) 2 0 0 c_X12_parts RX12 := ⟨2, (m_X12_parts l).q, by decide, by decide, k_X12_parts, rfl, p_X12_parts, mj_tw_in (List.mem_of_getElem? (i := 2098) (by decide +kernel)) rfl, n_X12_parts, e_X12_parts⟩
set_option maxRecDepth 100000 in
theorem LM_X11_promise (l : Launch) : LM l 145 yX11_promise cX11_promise 3 ((some FieldType.boolean)) 2 0 0 c_X11_promise RX11 := ⟨2, (m_X11_promise l).q, by decide, by decide, k_X11_promise, rfl, p_X11_promise, mj_tw_in (List.mem_of_getElem? (i := 1196) (by decide +kernel)) rfl, n_X11_promise, e_X11_promise⟩
set_option maxRecDepth 100000 in
theorem LM_X12_promise (l : Launch) : LM l 149 yX12_promise cX12_promise 3 ((some FieldType.boolean)) 2 0 0 c_X12_promise RX12 := ⟨2, (m_X12_promise l).q, by decide, by decide, k_X12_promise, rfl, p_X12_promise, mj_tw_in (List.mem_of_getElem? (i := 2102) (by decide +kernel)) rfl, n_X12_promise, e_X12_promise⟩
set_option maxRecDepth 100000 in
theorem LM_X11_give (l : Launch) : LM l 150 yX11_give cX11_give 4 ((some FieldType.boolean)) 3 0 0 c_X11_give RX11 := ⟨2, (m_X11_give l).q, by decide, by decide, k_X11_give, rfl, p_X11_give, mj_tw_in (List.mem_of_getElem? (i := 1200) (by decide +kernel)) rfl, n_X11_give, e_X11_give⟩
set_option maxRecDepth 100000 in
theorem LM_X12_give (l : Launch) : LM l 154 yX12_give cX12_give 4 ((some FieldType.boolean)) 3 0 0 c_X12_give RX12 := ⟨2, (m_X12_give l).q, by decide, by decide, k_X12_give, rfl, p_X12_give, mj_tw_in (List.mem_of_getElem? (i := 2106) (by decide +kernel)) rfl, n_X12_give, e_X12_give⟩
set_option maxRecDepth 100000 in
theorem LM_X11_lack (l : Launch) : LM l 155 yX11_lack cX11_lack 2 ((some FieldType.int)) 1 0 0 c_X11_lack RX11 := ⟨6, (m_X11_lack l).q, by decide, by decide, k_X11_lack, rfl, p_X11_lack, mj_tw_in (List.mem_of_getElem? (i := 1208) (by decide +kernel)) rfl, n_X11_lack, e_X11_lack⟩
set_option maxRecDepth 100000 in
theorem LM_X12_lack (l : Launch) : LM l 158 yX12_lack cX12_lack 3 ((some FieldType.int)) 1 0 0 c_X12_lack RX12 := ⟨8, (m_X12_lack l).q, by decide, by decide, k_X12_lack, rfl, p_X12_lack, mj_tw_in (List.mem_of_getElem? (i := 2110) (by decide +kernel)) rfl, n_X12_lack, e_X12_lack⟩
set_option maxRecDepth 100000 in
theorem LM_X11_teacher (l : Launch) : LM l 159 yX11_teacher cX11_teacher 5 ((some FieldType.int)) 4 0 0 c_X11_teacher RX11 := ⟨2, (m_X11_teacher l).q, by decide, by decide, k_X11_teacher, rfl, p_X11_teacher, mj_tw_in (List.mem_of_getElem? (i := 1216) (by decide +kernel)) rfl, n_X11_teacher, e_X11_teacher⟩
set_option maxRecDepth 100000 in
theorem LM_X12_teacher (l : Launch) : LM l 162 yX12_teacher cX12_teacher 5 ((some FieldType.int)) 4 0 0 c_X12_teacher RX12 := ⟨2, (m_X12_teacher l).q, by decide, by decide, k_X12_teacher, rfl, p_X12_teacher, mj_tw_in (List.mem_of_getElem? (i := 2134) (by decide +kernel)) rfl, n_X12_teacher, e_X12_teacher⟩
set_option maxRecDepth 100000 in
theorem LM_X11_sent (l : Launch) : LM l 163 yX11_sent cX11_sent 4 ((some FieldType.int)) 3 0 0 c_X11_sent RX11 := ⟨7, (m_X11_sent l).q, by decide, by decide, k_X11_sent, rfl, p_X11_sent, mj_tw_in (List.mem_of_getElem? (i := 1224) (by decide +kernel)) rfl, n_X11_sent, e_X11_sent⟩
set_option maxRecDepth 100000 in
theorem LM_X12_sent (l : Launch) : LM l 166 yX12_sent cX12_sent 4 ((some FieldType.int)) 3 0 0 c_X12_sent RX12 := ⟨9, (m_X12_sent l).q, by decide, by decide, k_X12_sent, rfl, p_X12_sent, mj_tw_in (List.mem_of_getElem? (i := 2138) (by decide +kernel)) rfl, n_X12_sent, e_X12_sent⟩
set_option maxRecDepth 100000 in
theorem LM_X11_teacherless (l : Launch) : LM l 167 yX11_teacherless cX11_teacherless 4 ((some FieldType.int)) 3 0 0 c_X11_teacherless RX11 := ⟨7, (m_X11_teacherless l).q, by decide, by decide, k_X11_teacherless, rfl, p_X11_teacherless, mj_tw_in (List.mem_of_getElem? (i := 1245) (by decide +kernel)) rfl, n_X11_teacherless, e_X11_teacherless⟩
set_option maxRecDepth 100000 in
theorem LM_X12_teacherless (l : Launch) : LM l 170 yX12_teacherless cX12_teacherless 6 ((some FieldType.int)) 3 0 0 c_X12_teacherless RX12 := ⟨9, (m_X12_teacherless l).q, by decide, by decide, k_X12_teacherless, rfl, p_X12_teacherless, mj_tw_in (List.mem_of_getElem? (i := 2150) (by decide +kernel)) rfl, n_X12_teacherless, e_X12_teacherless⟩
set_option maxRecDepth 100000 in
theorem LM_X11_recount (l : Launch) : LM l 171 yX11_recount cX11_recount 4 ((some FieldType.boolean)) 3 0 0 c_X11_recount RX11 := ⟨2, (m_X11_recount l).q, by decide, by decide, k_X11_recount, rfl, p_X11_recount, mj_tw_in (List.mem_of_getElem? (i := 1253) (by decide +kernel)) rfl, n_X11_recount, e_X11_recount⟩
set_option maxRecDepth 100000 in
theorem LM_X12_recount (l : Launch) : LM l 174 yX12_recount cX12_recount 4 ((some FieldType.boolean)) 3 0 0 c_X12_recount RX12 := ⟨2, (m_X12_recount l).q, by decide, by decide, k_X12_recount, rfl, p_X12_recount, mj_tw_in (List.mem_of_getElem? (i := 2154) (by decide +kernel)) rfl, n_X12_recount, e_X12_recount⟩
set_option maxRecDepth 100000 in
theorem LM_X11_span (l : Launch) : LM l 175 yX11_span cX11_span 5 ((some FieldType.int)) 4 0 0 c_X11_span RX11 := ⟨3, (m_X11_span l).q, by decide, by decide, k_X11_span, rfl, p_X11_span, mj_tw_in (List.mem_of_getElem? (i := 1261) (by decide +kernel)) rfl, n_X11_span, e_X11_span⟩
set_option maxRecDepth 100000 in
theorem LM_X12_span (l : Launch) : LM l 178 yX12_span cX12_span 12 ((some FieldType.int)) 4 0 0 c_X12_span RX12 := ⟨3, (m_X12_span l).q, by decide, by decide, k_X12_span, rfl, p_X12_span, mj_tw_in (List.mem_of_getElem? (i := 2158) (by decide +kernel)) rfl, n_X12_span, e_X12_span⟩
set_option maxRecDepth 100000 in
theorem LM_X11_strength (l : Launch) : LM l 179 yX11_strength cX11_strength 3 ((some FieldType.boolean)) 2 0 0 c_X11_strength RX11 := ⟨1, (m_X11_strength l).q, by decide, by decide, k_X11_strength, rfl, p_X11_strength, mj_tw_in (List.mem_of_getElem? (i := 1281) (by decide +kernel)) rfl, n_X11_strength, e_X11_strength⟩
set_option maxRecDepth 100000 in
theorem LM_X12_strength (l : Launch) : LM l 182 yX12_strength cX12_strength 3 ((some FieldType.boolean)) 2 0 0 c_X12_strength RX12 := ⟨1, (m_X12_strength l).q, by decide, by decide, k_X12_strength, rfl, p_X12_strength, mj_tw_in (List.mem_of_getElem? (i := 2163) (by decide +kernel)) rfl, n_X12_strength, e_X12_strength⟩
set_option maxRecDepth 100000 in
theorem LM_X11_roof (l : Launch) : LM l 183 yX11_roof cX11_roof 4 ((some FieldType.boolean)) 3 0 0 c_X11_roof RX11 := ⟨2, (m_X11_roof l).q, by decide, by decide, k_X11_roof, rfl, p_X11_roof, mj_tw_in (List.mem_of_getElem? (i := 1285) (by decide +kernel)) rfl, n_X11_roof, e_X11_roof⟩
set_option maxRecDepth 100000 in
theorem LM_X12_roof (l : Launch) : LM l 186 yX12_roof cX12_roof 4 ((some FieldType.boolean)) 3 0 0 c_X12_roof RX12 := ⟨2, (m_X12_roof l).q, by decide, by decide, k_X12_roof, rfl, p_X12_roof, mj_tw_in (List.mem_of_getElem? (i := 2167) (by decide +kernel)) rfl, n_X12_roof, e_X12_roof⟩
set_option maxRecDepth 100000 in
theorem LM_X11_wind (l : Launch) : LM l 187 yX11_wind cX11_wind 3 ((some FieldType.int)) 2 0 0 c_X11_wind RX11 := ⟨2, (m_X11_wind l).q, by decide, by decide, k_X11_wind, rfl, p_X11_wind, mj_tw_in (List.mem_of_getElem? (i := 1293) (by decide +kernel)) rfl, n_X11_wind, e_X11_wind⟩
set_option maxRecDepth 100000 in
theorem LM_X12_wind (l : Launch) : LM l 190 yX12_wind cX12_wind 6 ((some FieldType.int)) 2 0 0 c_X12_wind RX12 := ⟨2, (m_X12_wind l).q, by decide, by decide, k_X12_wind, rfl, p_X12_wind, mj_tw_in (List.mem_of_getElem? (i := 2171) (by decide +kernel)) rfl, n_X12_wind, e_X12_wind⟩
set_option maxRecDepth 100000 in
theorem LM_X11_blame (l : Launch) : LM l 191 yX11_blame cX11_blame 1 ((some FieldType.int)) 0 0 0 c_X11_blame RX11 := ⟨1, (m_X11_blame l).q, by decide, by decide, k_X11_blame, rfl, p_X11_blame, mj_tw_in (List.mem_of_getElem? (i := 1305) (by decide +kernel)) rfl, n_X11_blame, e_X11_blame⟩
set_option maxRecDepth 100000 in
theorem LM_X12_blame (l : Launch) : LM l 194 yX12_blame cX12_blame 8 ((some FieldType.int)) 0 0 0 c_X12_blame RX12 := ⟨0, (m_X12_blame l).q, by decide, by decide, k_X12_blame, rfl, p_X12_blame, mj_tw_in (List.mem_of_getElem? (i := 2175) (by decide +kernel)) rfl, n_X12_blame, e_X12_blame⟩
set_option maxRecDepth 100000 in
theorem LM_X11_treat (l : Launch) : LM l 195 yX11_treat cX11_treat 3 ((some FieldType.boolean)) 2 0 0 c_X11_treat RX11 := ⟨2, (m_X11_treat l).q, by decide, by decide, k_X11_treat, rfl, p_X11_treat, mj_tw_in (List.mem_of_getElem? (i := 1313) (by decide +kernel)) rfl, n_X11_treat, e_X11_treat⟩
set_option maxRecDepth 100000 in
theorem LM_X12_treat (l : Launch) : LM l 198 yX12_treat cX12_treat 3 ((some FieldType.boolean)) 2 0 0 c_X12_treat RX12 := ⟨2, (m_X12_treat l).q, by decide, by decide, k_X12_treat, rfl, p_X12_treat, mj_tw_in (List.mem_of_getElem? (i := 2179) (by decide +kernel)) rfl, n_X12_treat, e_X12_treat⟩
set_option maxRecDepth 100000 in
theorem LM_X11_stay (l : Launch) : LM l 199 yX11_stay cX11_stay 4 ((some FieldType.int)) 3 0 0 c_X11_stay RX11 := ⟨4, (m_X11_stay l).q, by decide, by decide, k_X11_stay, rfl, p_X11_stay, mj_tw_in (List.mem_of_getElem? (i := 1317) (by decide +kernel)) rfl, n_X11_stay, e_X11_stay⟩
set_option maxRecDepth 100000 in
theorem LM_X12_stay (l : Launch) : LM l 202 yX12_stay cX12_stay 8 ((some FieldType.int)) 3 0 0 c_X12_stay RX12 := ⟨3, (m_X12_stay l).q, by decide, by decide, k_X12_stay, rfl, p_X12_stay, mj_tw_in (List.mem_of_getElem? (i := 2183) (by decide +kernel)) rfl, n_X12_stay, e_X12_stay⟩
set_option maxRecDepth 100000 in
theorem LM_X11_lender (l : Launch) : LM l 203 yX11_lender cX11_lender 2 ((some FieldType.int)) 1 0 0 c_X11_lender RX11 := ⟨1, (m_X11_lender l).q, by decide, by decide, k_X11_lender, rfl, p_X11_lender, mj_tw_in (List.mem_of_getElem? (i := 1335) (by decide +kernel)) rfl, n_X11_lender, e_X11_lender⟩
set_option maxRecDepth 100000 in
theorem LM_X12_lender (l : Launch) : LM l 206 yX12_lender cX12_lender 2 ((some FieldType.int)) 1 0 0 c_X12_lender RX12 := ⟨1, (m_X12_lender l).q, by decide, by decide, k_X12_lender, rfl, p_X12_lender, mj_tw_in (List.mem_of_getElem? (i := 2187) (by decide +kernel)) rfl, n_X12_lender, e_X12_lender⟩
set_option maxRecDepth 100000 in
theorem LM_X11_bill (l : Launch) : LM l 207 yX11_bill cX11_bill 3 ((some FieldType.boolean)) 2 0 0 c_X11_bill RX11 := ⟨1, (m_X11_bill l).q, by decide, by decide, k_X11_bill, rfl, p_X11_bill, mj_tw_in (List.mem_of_getElem? (i := 1344) (by decide +kernel)) rfl, n_X11_bill, e_X11_bill⟩
set_option maxRecDepth 100000 in
theorem LM_X12_bill (l : Launch) : LM l 210 yX12_bill cX12_bill 3 ((some FieldType.boolean)) 2 0 0 c_X12_bill RX12 := ⟨1, (m_X12_bill l).q, by decide, by decide, k_X12_bill, rfl, p_X12_bill, mj_tw_in (List.mem_of_getElem? (i := 2191) (by decide +kernel)) rfl, n_X12_bill, e_X12_bill⟩
set_option maxRecDepth 100000 in
theorem LM_X11_paid (l : Launch) : LM l 211 yX11_paid cX11_paid 3 ((some FieldType.int)) 2 0 0 c_X11_paid RX11 := ⟨5, (m_X11_paid l).q, by decide, by decide, k_X11_paid, rfl, p_X11_paid, mj_tw_in (List.mem_of_getElem? (i := 1353) (by decide +kernel)) rfl, n_X11_paid, e_X11_paid⟩
set_option maxRecDepth 100000 in
theorem LM_X12_paid (l : Launch) : LM l 214 yX12_paid cX12_paid 8 ((some FieldType.int)) 2 0 0 c_X12_paid RX12 := ⟨8, (m_X12_paid l).q, by decide, by decide, k_X12_paid, rfl, p_X12_paid, mj_tw_in (List.mem_of_getElem? (i := 2196) (by decide +kernel)) rfl, n_X12_paid, e_X12_paid⟩
set_option maxRecDepth 100000 in
theorem LM_X11_row (l : Launch) : LM l 215 yX11_row cX11_row 3 ((some FieldType.int)) 2 0 0 c_X11_row RX11 := ⟨1, (m_X11_row l).q, by decide, by decide, k_X11_row, rfl, p_X11_row, mj_tw_in (List.mem_of_getElem? (i := 1372) (by decide +kernel)) rfl, n_X11_row, e_X11_row⟩
set_option maxRecDepth 100000 in
theorem LM_X12_row (l : Launch) : LM l 218 yX12_row cX12_row 5 ((some FieldType.int)) 2 0 0 c_X12_row RX12 := ⟨0, (m_X12_row l).q, by decide, by decide, k_X12_row, rfl, p_X12_row, mj_tw_in (List.mem_of_getElem? (i := 2204) (by decide +kernel)) rfl, n_X12_row, e_X12_row⟩
set_option maxRecDepth 100000 in
theorem LM_X11_plan (l : Launch) : LM l 219 yX11_plan cX11_plan 4 ((some FieldType.int)) 3 25 3000 c_X11_plan RX11 := ⟨6, (m_X11_plan l).q, by decide, by decide, k_X11_plan, rfl, p_X11_plan, mj_tw_in (List.mem_of_getElem? (i := 1380) (by decide +kernel)) rfl, n_X11_plan, e_X11_plan⟩
set_option maxRecDepth 100000 in
theorem LM_X12_plan (l : Launch) : LM l 222 yX12_plan cX12_plan 9 ((some FieldType.int)) 3 0 0 c_X12_plan RX12 := ⟨9, (m_X12_plan l).q, by decide, by decide, k_X12_plan, rfl, p_X12_plan, mj_tw_in (List.mem_of_getElem? (i := 2208) (by decide +kernel)) rfl, n_X12_plan, e_X12_plan⟩
set_option maxRecDepth 100000 in
theorem LM_X11_many (l : Launch) : LM l 223 yX11_many cX11_many 2 ((some FieldType.int)) 1 0 0 c_X11_many RX11 := ⟨1, (m_X11_many l).q, by decide, by decide, k_X11_many, rfl, p_X11_many, mj_tw_in (List.mem_of_getElem? (i := 1393) (by decide +kernel)) rfl, n_X11_many, e_X11_many⟩
set_option maxRecDepth 100000 in
theorem LM_X12_many (l : Launch) : LM l 226 yX12_many cX12_many 5 ((some FieldType.int)) 1 0 0 c_X12_many RX12 := ⟨0, (m_X12_many l).q, by decide, by decide, k_X12_many, rfl, p_X12_many, mj_tw_in (List.mem_of_getElem? (i := 2212) (by decide +kernel)) rfl, n_X12_many, e_X12_many⟩
